/** ACTS "(ints, wrapping)": each body at the ends of the ints, and each CHIEF's own number and v. */
public final class WrapTest {
    private static final int LEAST = Integer.MIN_VALUE, MOST = Integer.MAX_VALUE;

    public static void main(String[] args) {
        sums();
        products();
        signs();
        near();
        keeping();
        numbers();
        traceAndRefusals();
        Check.end("WrapTest");
    }

    /** A chief of such a kind and v, whose number is as told. */
    private static int act(int kind, int v, int number, int act, int x) {
        ChiefGrades c = new ChiefGrades();
        for (int i = 0; i < number; i++) c.chief(0, 0, 0);
        c.chief(kind, v, 0);
        return c.act(number, act, x);
    }

    /** 1: x + i. 2: works(x) - v. 61: super.grades(x) + v. */
    private static void sums() {
        Check.due("26: the most and 3", act(0, 0, 3, 0, MOST), LEAST + 2);
        Check.due("26: the most and 0", act(0, 0, 0, 0, MOST), MOST);
        Check.due("26: one less than the most, and 1", act(0, 0, 1, 0, MOST - 1), MOST);
        Check.due("26: the least", act(0, 9, 0, 0, LEAST), LEAST);
        Check.due("26: the least less 9", act(0, 9, 0, 1, LEAST), MOST - 8);
        Check.due("26: the least and 3 less 9", act(0, 9, 3, 1, LEAST), MOST - 5);
        Check.due("26: just not below", act(0, 9, 0, 1, LEAST + 9), LEAST);
        Check.due("26: just below", act(0, 9, 0, 1, LEAST + 8), MOST);
        Check.due("26: talking, there and back", act(6, 9, 0, 1, LEAST), LEAST);
        Check.due("26: talking, up and over", act(6, 9, 3, 1, MOST), LEAST + 2);
        Check.due("26: no v", act(0, 0, 0, 1, LEAST), LEAST);
    }

    /** 3: grades(x) * 2. 11: super.works(x * 3). */
    private static void products() {
        Check.due("26: twice 2^30", act(0, 0, 0, 2, 1 << 30), LEAST);
        Check.due("26: twice 2^30 less 1", act(0, 0, 0, 2, (1 << 30) - 1), MOST - 1);
        Check.due("26: twice the least", act(0, 0, 0, 2, LEAST), 0);
        Check.due("26: twice the most", act(0, 0, 0, 2, MOST), -2);
        Check.due("26: twice -2^30", act(0, 0, 0, 2, -(1 << 30)), LEAST);
        Check.due("26: twice -2^30 less 1", act(0, 0, 0, 2, -(1 << 30) - 1), MOST - 1);
        Check.due("26: thrice the most", act(1, 0, 0, 0, MOST), MOST - 2);
        Check.due("26: thrice the least", act(1, 0, 0, 0, LEAST), LEAST);
        Check.due("26: thrice 715827882", act(1, 0, 0, 0, 715827882), 2147483646);
        Check.due("26: thrice 715827883", act(1, 0, 0, 0, 715827883), -2147483647);
        Check.due("26: thrice -715827883", act(1, 0, 0, 0, -715827883), 2147483647);
        Check.due("26: thrice and 3", act(1, 0, 3, 0, 715827882), -2147483647);
        Check.due("26: lenient, levels", act(1, 9, 3, 2, 715827882), 2 * (-2147483647 - 9));
    }

    /** 21: -super.grades(x). 31: super.levels(x) ^ 7. */
    private static void signs() {
        Check.due("26: the least's negative", act(2, 0, 0, 1, LEAST), LEAST);
        Check.due("26: the most's negative", act(2, 0, 0, 1, MOST), LEAST + 1);
        Check.due("26: 0's negative", act(2, 0, 0, 1, 0), 0);
        Check.due("26: v's negative", act(2, 9, 0, 1, 0), 9);
        Check.due("26: beyond the least", act(2, 9, 0, 1, LEAST + 8), -MOST);
        Check.due("26: turning, levels", act(2, 0, 0, 2, MOST), 2);
        Check.due("26: 0 and 7", act(3, 0, 0, 2, 0), 7);
        Check.due("26: -2 and 7", act(3, 0, 0, 2, MOST), -7);
        Check.due("26: the least and 7", act(3, 0, 0, 2, 1 << 30), LEAST + 7);
        Check.due("26: 6 and 7", act(3, 0, 0, 2, 3), 1);
        Check.due("26: talking, levels", act(6, 9, 0, 2, 3), 1);
    }

    /** 41: super.levels(x - 1) + works(2); works is LENIENT's: 6 and i. */
    private static void near() {
        // thrice the most is the most less 2, and twice that is -6
        Check.due("26: the least less 1", act(4, 0, 0, 2, LEAST), -6 + 6);
        Check.due("26: 1 less 1", act(4, 0, 0, 2, 1), 6);
        Check.due("26: 0 less 1", act(4, 0, 0, 2, 0), -6 + 6);
        Check.due("26: with v and i", act(4, 9, 3, 2, 1), 2 * (3 - 9) + 6 + 3);
        // 3 times 357913940 is 1073741820; twice that is 2147483640; 6 more is the most less 1
        Check.due("26: just not over", act(4, 0, 0, 2, 357913941), MOST - 1);
        // with i 3 and v 2 it is 2147483642 and 9
        Check.due("26: over", act(4, 2, 3, 2, 357913941), LEAST + 3);
    }

    /** 51: super.works(x) ^ i, for each i; grades turns its sign, less v. */
    private static void keeping() {
        int[] due = {5, 6 ^ 1, 7 ^ 2, 8 ^ 3};
        for (int i = 0; i < 4; i++) {
            Check.due("26: keeping, i " + i, act(5, 9, i, 0, 5), due[i]);
            Check.due("26: keeping, grades, i " + i, act(5, 9, i, 1, 5), 9 - due[i]);
            Check.due("26: keeping, levels, i " + i, act(5, 9, i, 2, 5), 18 - 2 * due[i]);
        }
        Check.due("26: keeping, the most and 1", act(5, 0, 1, 0, MOST), LEAST + 1);
        Check.due("26: keeping, the least", act(5, 0, 0, 1, LEAST), LEAST);
        Check.due("26: keeping, -1 and 3", act(5, 0, 3, 0, -1), 2 ^ 3);
        Check.due("26: keeping, -4 and 3", act(5, 0, 3, 0, -4), -1 ^ 3);
    }

    /** i is the CHIEF's own number, 0 .. 3, whatever stands there besides. */
    private static void numbers() {
        for (int kind = 0; kind < 7; kind++) {
            for (int v = 0; v < 10; v += 9) {
                int[] works = new int[4];
                for (int i = 0; i < 4; i++) works[i] = act(kind, v, i, 0, 8);
                int start = kind == 1 || kind == 4 ? 24 : 8;
                for (int i = 0; i < 4; i++) {
                    Check.due("26: works, kind " + kind + " i " + i, works[i], kind == 5 ? start + i ^ i : start + i);
                }
            }
        }
    }

    /** "0, and no TRACE then: no such CHIEF, act", also behind an act that ran; all else stays. */
    private static void traceAndRefusals() {
        int[] chiefs = {-1, 4, LEAST, MOST}, acts = {-1, 3, LEAST, MOST};
        for (int i = 0; i < 4; i++) {
            refused(chiefs[i], 0);
            refused(0, acts[i]);
            refused(chiefs[i], acts[i]);
        }
        ChiefGrades x = Scene.of(2, 3);
        x.act(1, 2, 5);
        Check.due("26: a chief that is not there yet", x.act(2, 2, 5), 0);
        Check.due("31: no bodies", x.count(5), 0);
        x.chief(0, 0, 0);
        Check.due("26: once it is", x.act(2, 0, 5), 7);
        Check.due("31: one body", x.count(5), 1);
    }

    private static void refused(int chief, int act) {
        ChiefGrades x = Scene.full(), twin = Scene.full();
        Check.due("27: a trace so far", x.trace(0), 31);
        Check.due("26: chief " + chief + " act " + act, x.act(chief, act, 9), 0);
        for (int i = -1; i < 8; i++) Check.due("27: no trace then", x.trace(i), ChiefGrades.NONE);
        Check.due("31: no bodies then", x.count(5), 0);
        x.act(3, 2, 7);
        Look.same("26: all else", x, Look.at(twin));
    }
}
