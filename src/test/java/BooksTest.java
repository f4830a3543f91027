/** Promises 20 to 25: chances, the book, nets, leans, what is looked at. */
public final class BooksTest {
    private static final int NONE = ChiefGrades.NONE, BAD = ChiefGrades.BAD, FULL = ChiefGrades.FULL;
    private static final long NO = ChiefGrades.NO;

    public static void main(String[] args) {
        chance();
        noChance();
        book();
        clear();
        nets();
        leans();
        noLeans();
        looked();
        Check.end("BooksTest");
    }

    private static void chance(int h, int g, int n, int m, long above, long below) {
        ChiefGrades x = new ChiefGrades();
        String what = "20: " + m + " of " + n + " of " + h + " with " + g;
        Check.due(what + ", above", x.chance(h, g, n, m, 0), above);
        Check.due(what + ", below", x.chance(h, g, n, m, 1), below);
    }

    private static void chance() {
        chance(10, 2, 3, 0, 7, 15);
        chance(10, 2, 3, 1, 7, 15);
        chance(10, 2, 3, 2, 1, 15);
        chance(10, 2, 3, 3, 0, 1);
        chance(1, 0, 0, 0, 1, 1);
        chance(1, 1, 1, 1, 1, 1);
        chance(1, 1, 1, 0, 0, 1);
        chance(4, 2, 2, 1, 2, 3);
        chance(30, 15, 15, 15, 1, 155117520);
        chance(30, 15, 15, 0, 1, 155117520);
        chance(30, 15, 15, 7, 6435L * 6435 / 45, 155117520 / 45);
        chance(30, 30, 30, 30, 1, 1);
        chance(30, 0, 30, 0, 1, 1);
        chance(30, 1, 1, 1, 1, 30);
        chance(5, 5, 3, 2, 0, 1);
    }

    private static void noChance() {
        ChiefGrades x = new ChiefGrades();
        int[][] due = {{0, 0, 0, 0, 0}, {31, 0, 0, 0, 0}, {-1, 0, 0, 0, 0}, {10, -1, 3, 0, 0}, {10, 11, 3, 0, 0},
            {10, 2, -1, 0, 0}, {10, 2, 11, 0, 0}, {10, 2, 3, -1, 0}, {10, 2, 3, 4, 0}, {10, 2, 3, 0, 2},
            {10, 2, 3, 0, -1}, {10, 2, 3, 3, 2}, {Integer.MAX_VALUE, 0, 0, 0, 0}};
        for (int[] a : due) {
            Check.due("20: " + java.util.Arrays.toString(a), x.chance(a[0], a[1], a[2], a[3], a[4]), NO);
        }
        Check.due("20: NO", NO, Long.MIN_VALUE);
    }

    private static ChiefGrades office() {
        ChiefGrades x = new ChiefGrades();
        for (int i = 0; i < 4; i++) x.chief(0, 0, 0);
        for (int i = 0; i < 6; i++) x.worker(i % 4, 50, 0, 0);
        return x;
    }

    private static void book() {
        ChiefGrades x = office();
        Check.due("21: worker 6", x.book(6, 0, 1), NONE);
        Check.due("21: worker -1", x.book(-1, 0, 1), NONE);
        Check.due("21: chief 4", x.book(0, 4, 1), NONE);
        Check.due("21: chief -1", x.book(0, -1, 1), NONE);
        Check.due("21: NONE ahead of BAD", x.book(0, 4, 6), NONE);
        Check.due("21: grade 0", x.book(0, 0, 0), BAD);
        Check.due("21: grade 6", x.book(0, 0, 6), BAD);
        Check.due("21: no rows so far", x.count(3), 0);
        for (int i = 1; i <= 20; i++) Check.due("21: rows", x.book(i % 6, i % 4, 1 + i % 5), i);
        Check.due("21: one more", x.book(0, 0, 1), FULL);
        Check.due("21: BAD ahead of FULL", x.book(0, 0, 6), BAD);
        Check.due("21: NONE ahead of FULL", x.book(6, 0, 1), NONE);
        Check.due("21: 20 stay", x.count(3), 20);
    }

    private static void clear() {
        ChiefGrades x = office();
        Check.due("22: none", x.clear(), 0);
        x.book(0, 0, 1);
        x.book(0, 1, 1);
        Check.due("22: two", x.clear(), 2);
        Check.due("22: they are gone", x.count(3), 0);
        Check.due("22: nobody is joined", x.nets(-1), 4);
        Check.due("22: no leans", x.leans(0, 1, 0), NO);
        Check.due("22: nothing to look at", x.looked(), -5);
        Check.due("22: from 1 on", x.book(0, 0, 1), 1);
    }

    private static void nets() {
        ChiefGrades x = office();
        Check.due("23: each alone", x.nets(-1), 4);
        Check.due("23: one alone", x.nets(2), 4);
        x.book(0, 0, 1);
        x.book(1, 1, 1);
        Check.due("23: of unlike workers", x.nets(-1), 4);
        x.book(0, 3, 1);
        Check.due("23: two joined", x.nets(-1), 3);
        Check.due("23: by the first", x.nets(0), 9);
        Check.due("23: by the other", x.nets(3), 9);
        Check.due("23: another alone", x.nets(1), 2);
        x.book(1, 2, 5);
        Check.due("23: two and two", x.nets(-1), 2);
        Check.due("23: the other two", x.nets(2), 6);
        x.book(4, 3, 5);
        x.book(4, 2, 5);
        Check.due("23: by third ones", x.nets(-1), 1);
        for (int i = 0; i < 4; i++) Check.due("23: all, by " + i, x.nets(i), 15);
        Check.due("23: chief 4", x.nets(4), NONE);
        Check.due("23: chief -2", x.nets(-2), NONE);
        Check.due("23: least", x.nets(Integer.MIN_VALUE), NONE);
        Check.due("23: no chiefs", new ChiefGrades().nets(-1), 0);
        Check.due("23: no chief 0", new ChiefGrades().nets(0), NONE);
    }

    private static void leans(ChiefGrades x, int one, int other, long above, long below) {
        Check.due("24: " + one + " and " + other + ", above", x.leans(one, other, 0), above);
        Check.due("24: " + one + " and " + other + ", below", x.leans(one, other, 1), below);
    }

    private static void leans() {
        ChiefGrades x = office();
        x.book(0, 0, 5);
        x.book(0, 1, 2);
        leans(x, 0, 1, 3, 1);
        leans(x, 1, 0, -3, 1);
        x.book(0, 0, 1);
        x.book(0, 1, 5);
        leans(x, 0, 1, 3, 1);
        x.book(1, 1, 4);
        leans(x, 0, 1, 3, 1);
        x.book(1, 0, 3);
        leans(x, 0, 1, 1, 1);
        x.book(2, 1, 2);
        x.book(2, 0, 1);
        leans(x, 0, 1, 1, 3);
        leans(x, 1, 0, -1, 3);
        x.book(3, 0, 2);
        x.book(3, 1, 3);
        leans(x, 0, 1, 0, 1);
        x.book(4, 0, 3);
        x.book(4, 1, 5);
        x.book(5, 0, 3);
        x.book(5, 1, 5);
        leans(x, 0, 1, -2, 3);
        x.book(4, 2, 3);
        leans(x, 1, 2, 2, 1);
    }

    private static void noLeans() {
        ChiefGrades x = office();
        x.book(0, 0, 5);
        x.book(0, 1, 2);
        x.book(1, 2, 2);
        Check.due("24: no worker of both", x.leans(0, 2, 0), NO);
        Check.due("24: no rows of one", x.leans(0, 3, 1), NO);
        Check.due("24: one chief", x.leans(0, 0, 0), NO);
        Check.due("24: one chief, below", x.leans(1, 1, 1), NO);
        Check.due("24: chief 4", x.leans(0, 4, 0), NO);
        Check.due("24: chief -1", x.leans(-1, 0, 0), NO);
        Check.due("24: part 2", x.leans(0, 1, 2), NO);
        Check.due("24: part -1", x.leans(0, 1, -1), NO);
    }

    private static void looked() {
        ChiefGrades x = new ChiefGrades();
        x.chief(0, 0, 0);
        x.chief(1, 9, 0);
        x.worker(0, 55, 0, 0);
        x.worker(1, 80, 0, 0);
        Check.due("25: no rows", x.looked(), -5);
        x.book(0, 0, 3);
        x.book(0, 1, 4);
        x.book(1, 0, 5);
        Check.due("25: all right", x.looked(), -5);
        x.book(0, 0, 4);
        Check.due("25: the fourth", x.looked(), 3);
        x.book(1, 1, 1);
        Check.due("25: the first of two", x.looked(), 3);
        x.set(0, 0, 60);
        Check.due("25: the first row, by now", x.looked(), 0);
        x.move(0, 1);
        Check.due("25: wherever it is", x.looked(), 0);
        x.set(0, 0, 55);
        Check.due("25: as before", x.looked(), 3);
        Check.house(x, "less 20 t=2&w=0");
        // moved to where the other one is it would have 64 - 20
        Check.due("25: with the team that would be", x.looked(), 1);
    }
}
