/** Objects as the tests of edges need them. */
final class Scene {
    private static final int[] KINDS = {0, 4, 5, 6};

    private Scene() {
    }

    /** So many CHIEFS of unlike KINDS, and so many WORKERS who are theirs by turns. */
    static ChiefGrades of(int chiefs, int workers) {
        ChiefGrades x = new ChiefGrades();
        for (int c = 0; c < chiefs; c++) x.chief(KINDS[c], c + 1, 2 * c);
        for (int w = 0; w < workers; w++) x.worker(w % chiefs, 9 * w + 5, 90 - 8 * w, w);
        return x;
    }

    /** Two CHIEFS, three WORKERS, and something of all else. */
    static ChiefGrades some() {
        ChiefGrades x = of(2, 3);
        Check.due("3: a house", Check.house(x, "five 5;one 4;pay 3;more 7 k=4&!w>1"), 0);
        x.fresh(33, 44);
        x.year();
        x.book(0, 0, 1);
        x.book(0, 1, 3);
        x.act(1, 2, 5);
        Check.feed(x, "pay 2");
        return x;
    }

    /** Four CHIEFS, ten WORKERS, five HOUSES, 20 rows, 100 signs that are a HOUSE. */
    static ChiefGrades full() {
        ChiefGrades x = of(4, 10);
        for (int i = 1; i < 5; i++) Check.house(x, "pay " + i);
        Check.house(x, "five 4;one 3;pay 5;more 50 w=9|c=3");
        for (int i = 0; i < 20; i++) x.book(9 - i % 10, 3 - i % 4, 5 - i % 5);
        Check.feed(x, hundred());
        x.act(3, 2, 7);
        int[] full = {10, 4, 5, 20, 100};
        for (int what = 0; what < 5; what++) Check.due("31: full, what " + what, x.count(what), full[what]);
        return x;
    }

    /** A HOUSE of just 100 signs; the last one is the 7 of what it pays. */
    static String hundred() {
        StringBuilder text = new StringBuilder("more 10 w=10|w=10|w=10");
        while (text.length() < 94) text.append("|w=1");
        return text + ";pay 7";
    }
}
