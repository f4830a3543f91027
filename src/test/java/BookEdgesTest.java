/** Edges of CHANCE, NETS, LEANS and LOOKED. */
public final class BookEdgesTest {
    private static final long NO = ChiefGrades.NO;

    public static void main(String[] args) {
        chances();
        nets();
        oneRowEach();
        leans();
        looked();
        lookedAtOnce();
        lookedWithinBounds();
        Check.end("BookEdgesTest");
    }

    private static void chance(int h, int g, int n, int m, long above, long below) {
        ChiefGrades x = new ChiefGrades();
        String what = "20: " + m + " bad of " + n + " of " + h + " with " + g;
        Check.due(what + ", above", x.chance(h, g, n, m, 0), above);
        Check.due(what + ", below", x.chance(h, g, n, m, 1), below);
    }

    /** None is drawn, all are drawn, none is bad, all are bad, more bad ones than there are. */
    private static void chances() {
        for (int h = 1; h <= 30; h++) {
            for (int g = 0; g <= h; g++) {
                chance(h, g, 0, 0, 1, 1);
                for (int m = 0; m <= h; m++) chance(h, g, h, m, m == g ? 1 : 0, 1);
            }
            for (int n = 0; n <= h; n++) {
                for (int m = 0; m <= n; m++) {
                    chance(h, 0, n, m, m == 0 ? 1 : 0, 1);
                    chance(h, h, n, m, m == n ? 1 : 0, 1);
                }
            }
            chance(h, 1, 1, 1, 1, h);
            chance(h, 1, 1, 0, h == 1 ? 0 : h - 1, h == 1 ? 1 : h);
            if (h > 1) chance(h, 1, 2, 2, 0, 1);
        }
        // too few good ones: of 3 drawn of 4 with 3 bad at least 2 are bad
        chance(4, 3, 3, 0, 0, 1);
        chance(4, 3, 3, 1, 0, 1);
        chance(4, 3, 3, 2, 3, 4);
        chance(4, 3, 3, 3, 1, 4);
        chance(30, 10, 10, 0, 184756L / 143, 30045015L / 143);
        chance(30, 10, 10, 10, 1, 30045015L);
        chance(30, 15, 15, 14, 5, 155117520L / 45);
        chance(6, 3, 2, 1, 3, 5);
    }

    private static ChiefGrades office() {
        ChiefGrades x = new ChiefGrades();
        for (int c = 0; c < 4; c++) x.chief(0, 0, 0);
        for (int w = 0; w < 10; w++) x.worker(w % 4, 50, 0, 0);
        return x;
    }

    private static void netsAre(String what, ChiefGrades x, int many, int... of) {
        Check.due("23: " + what, x.nets(-1), many);
        for (int c = 0; c < 4; c++) Check.due("23: " + what + ", of " + c, x.nets(c), of[c]);
    }

    /** "joined .. if both are joined to a third one": chains in every order; "one alone is one, too". */
    private static void nets() {
        netsAre("an empty book", office(), 4, 1, 2, 4, 8);
        int[][] orders = {{0, 1, 2, 3}, {3, 2, 1, 0}, {0, 2, 1, 3}, {2, 0, 3, 1}, {1, 3, 0, 2}, {3, 0, 2, 1}};
        for (int[] c : orders) {
            for (int turn = 0; turn < 3; turn++) {
                ChiefGrades x = office();
                int[] links = {turn, (turn + 1) % 3, (turn + 2) % 3};
                for (int i : links) {
                    x.book(9 - i, c[i], 1);
                    x.book(9 - i, c[i + 1], 5);
                }
                netsAre("a chain of four", x, 1, 15, 15, 15, 15);
            }
        }
        ChiefGrades x = office();
        x.book(0, 0, 1);
        x.book(0, 0, 2);
        netsAre("one chief twice", x, 4, 1, 2, 4, 8);
        x.book(9, 3, 2);
        netsAre("each with a worker of its own", x, 4, 1, 2, 4, 8);
        x.book(0, 3, 2);
        netsAre("the first and the last", x, 3, 9, 2, 4, 9);
        x.book(5, 1, 1);
        x.book(5, 2, 1);
        netsAre("two and two", x, 2, 9, 6, 6, 9);
        x.clear();
        netsAre("cleared", x, 4, 1, 2, 4, 8);
        for (int c = 0; c < 4; c++) x.book(7, c, 1);
        netsAre("one worker in rows of all", x, 1, 15, 15, 15, 15);
        ChiefGrades y = office();
        y.move(0, 3);
        y.book(0, 1, 1);
        netsAre("whose worker it is joins nobody", y, 4, 1, 2, 4, 8);
    }

    private static void lean(String what, ChiefGrades x, int one, int other, long above, long below) {
        Check.due("24: " + what + ", above", x.leans(one, other, 0), above);
        Check.due("24: " + what + ", below", x.leans(one, other, 1), below);
        Check.due("24: " + what + ", the other way", x.leans(other, one, 0), above == NO ? NO : -above);
        Check.due("24: " + what + ", the other way, below", x.leans(other, one, 1), below);
    }

    private static void oneRowEach() {
        for (int a = 1; a <= 5; a++) {
            for (int b = 1; b <= 5; b++) {
                ChiefGrades x = office();
                x.book(9, 0, a);
                lean("a row of one alone", x, 0, 3, NO, NO);
                x.book(8, 3, b);
                lean("of unlike workers", x, 0, 3, NO, NO);
                x.book(9, 3, b);
                lean(a + " and " + b, x, 0, 3, a - b, 1);
                x.book(9, 3, 6 - b);
                x.book(9, 0, 6 - a);
                lean(a + " and " + b + ", later rows", x, 0, 3, a - b, 1);
                Check.due("24: one chief", x.leans(0, 0, 0), NO);
                Check.due("24: one chief, below", x.leans(3, 3, 1), NO);
                x.clear();
                lean("cleared", x, 0, 3, NO, NO);
            }
        }
    }

    /** "a fraction in lowest terms": of all ten workers, one by one. */
    private static void leans() {
        ChiefGrades x = office();
        long[][] due = {{4, 1}, {2, 1}, {4, 3}, {1, 1}, {4, 5}, {2, 3}, {4, 7}, {1, 2}, {4, 9}, {2, 5}};
        for (int w = 0; w < 10; w++) {
            x.book(w, 1, w == 0 ? 5 : 3);
            x.book(w, 2, w == 0 ? 1 : 3);
            lean("of " + (w + 1) + " workers", x, 1, 2, due[w][0], due[w][1]);
        }
        x.clear();
        for (int w = 0; w < 10; w++) {
            x.book(w, 1, 1);
            x.book(w, 2, 5);
        }
        lean("the least", x, 1, 2, -4, 1);
        x.clear();
        x.book(0, 1, 5);
        x.book(0, 2, 1);
        x.book(1, 1, 1);
        x.book(1, 2, 5);
        lean("nothing together", x, 1, 2, 0, 1);
    }

    /** Each GRADE against MOVED: just the one that is MOVED is right; rows are numbered from 0 on. */
    private static void looked() {
        int[] worths = {10, 30, 50, 70, 90};
        for (int due = 1; due <= 5; due++) {
            for (int grade = 1; grade <= 5; grade++) {
                ChiefGrades x = office();
                x.set(0, 0, worths[due - 1]);
                x.book(0, 0, grade);
                Check.due("25: " + grade + " for " + due, x.looked(), grade == due ? -5 : 0);
                x.book(0, 3, grade);
                Check.due("25: " + grade + " for " + due + ", by another", x.looked(), grade == due ? -5 : 0);
            }
        }
        for (int wrong = 0; wrong < 20; wrong++) {
            ChiefGrades x = office();
            for (int i = 0; i < 20; i++) x.book(i % 10, i % 4, i >= wrong ? 4 : 3);
            Check.due("25: the first of several", x.looked(), wrong);
        }
    }

    /** The very first row of a new object: its WORKER and its CHIEF, not the first ones. */
    private static void lookedAtOnce() {
        for (int grade = 4; grade <= 5; grade++) {
            ChiefGrades x = office();
            x.set(9, 0, 90);
            x.book(9, 3, grade);
            Check.due("25: the tenth's grade is 5", x.looked(), grade == 5 ? -5 : 0);
            ChiefGrades y = new ChiefGrades();
            y.chief(0, 0, 0);
            y.chief(1, 9, 0);
            y.worker(0, 75, 0, 0);
            y.worker(0, 75, 0, 0);
            y.book(1, 1, grade);
            Check.due("25: by the lenient one it is 5", y.looked(), grade == 5 ? -5 : 0);
        }
    }

    private static void lookedWithinBounds() {
        ChiefGrades x = office();
        for (int i = 0; i < 20; i++) x.book(9, 3, 3);
        Check.due("25: twenty right ones", x.looked(), -5);
        long[] before = Look.at(x);
        x.looked();
        Look.same("25: nobody moved", x, before);
        x.set(9, 0, 60);
        Check.due("25: all wrong by now", x.looked(), 0);
        x.clear();
        Check.due("25: no rows", x.looked(), -5);
    }
}
