/** Promises 26 to 31: acts, the trace, kinds, the image, counts. */
public final class ActsTest {
    private static final int NONE = ChiefGrades.NONE, STATE = ChiefGrades.STATE;

    public static void main(String[] args) {
        acts();
        wrapping();
        noAct();
        trace();
        as();
        image();
        imageOfAll();
        imageWithoutTrace();
        count();
        constants();
        Check.end("ActsTest");
    }

    /** A chief of a kind whose number is 3 and whose v is 5. */
    private static ChiefGrades third(int kind) {
        ChiefGrades x = new ChiefGrades();
        for (int i = 0; i < 3; i++) x.chief(0, 1, 0);
        x.chief(kind, 5, 0);
        return x;
    }

    private static void act(int kind, int act, int x, int due, int... bodies) {
        ChiefGrades c = third(kind);
        String what = "26: kind " + kind + ", act " + act;
        Check.due(what, c.act(3, act, x), due);
        Check.due(what + ": bodies", c.count(5), bodies.length);
        for (int i = 0; i < bodies.length; i++) Check.due(what + ": body " + i, c.trace(i), bodies[i]);
        Check.due(what + ": no body more", c.trace(bodies.length), NONE);
    }

    private static void acts() {
        act(0, 0, 10, 13, 1);
        act(0, 1, 10, 8, 2, 1);
        act(0, 2, 10, 16, 3, 2, 1);
        act(1, 0, 10, 33, 11, 1);
        act(1, 1, 10, 28, 2, 11, 1);
        act(1, 2, 10, 56, 3, 2, 11, 1);
        act(2, 0, 10, 13, 1);
        act(2, 1, 10, -8, 21, 2, 1);
        act(2, 2, 10, -16, 3, 21, 2, 1);
        act(3, 0, 10, 13, 1);
        act(3, 1, 10, 8, 2, 1);
        act(3, 2, 10, 16 ^ 7, 31, 3, 2, 1);
        act(4, 0, 10, 33, 11, 1);
        act(4, 1, 10, 28, 2, 11, 1);
        act(4, 2, 10, (9 * 3 + 3 - 5) * 2 + 9, 41, 3, 2, 11, 1, 11, 1);
        act(5, 0, 10, 13 ^ 3, 51, 1);
        act(5, 1, 10, -((13 ^ 3) - 5), 21, 2, 51, 1);
        act(5, 2, 10, -((13 ^ 3) - 5) * 2, 3, 21, 2, 51, 1);
        act(6, 0, 10, 13, 1);
        act(6, 1, 10, 13, 61, 2, 1);
        act(6, 2, 10, 26 ^ 7, 31, 3, 61, 2, 1);
    }

    private static void wrapping() {
        act(0, 0, Integer.MAX_VALUE, Integer.MIN_VALUE + 2, 1);
        act(0, 1, Integer.MIN_VALUE, Integer.MAX_VALUE - 1, 2, 1);
        act(0, 2, 0x40000000, Integer.MIN_VALUE - 4 + 0, 3, 2, 1);
        act(1, 0, 0x7fffffff, 0x7fffffff * 3 + 3, 11, 1);
        act(4, 2, Integer.MIN_VALUE, (Integer.MAX_VALUE * 3 - 2) * 2 + 9, 41, 3, 2, 11, 1, 11, 1);
        act(5, 0, Integer.MIN_VALUE, (Integer.MIN_VALUE + 3) ^ 3, 51, 1);
    }

    private static void noAct() {
        int[][] none = {{4, 0}, {-1, 0}, {Integer.MIN_VALUE, 0}, {3, 3}, {3, -1}, {3, Integer.MAX_VALUE}, {4, 3}};
        for (int[] a : none) {
            ChiefGrades x = third(4);
            x.act(3, 2, 10);
            Check.due("26: chief " + a[0] + ", act " + a[1], x.act(a[0], a[1], 10), 0);
            Check.due("26: no trace then", x.trace(0), NONE);
            Check.due("26: no bodies then", x.count(5), 0);
        }
    }

    private static void trace() {
        ChiefGrades x = third(6);
        Check.due("27: no act so far", x.trace(0), NONE);
        x.act(3, 2, 1);
        Check.due("27: first", x.trace(0), 31);
        Check.due("27: last", x.trace(4), 1);
        Check.due("27: 5", x.trace(5), NONE);
        Check.due("27: -1", x.trace(-1), NONE);
        Check.due("27: greatest", x.trace(Integer.MAX_VALUE), NONE);
        Check.due("27: least", x.trace(Integer.MIN_VALUE), NONE);
        x.act(0, 0, 1);
        Check.due("27: of the latest act", x.trace(0), 1);
        Check.due("27: and no more", x.trace(1), NONE);
    }

    private static void as() {
        int[] are = {1, 1 | 2, 1 | 4, 1 | 8, 1 | 2 | 16, 1 | 4 | 32, 1 | 8 | 64};
        for (int kind = 0; kind < 7; kind++) {
            ChiefGrades x = third(kind);
            for (int k = 0; k < 7; k++) {
                Check.due("28: kind " + kind + " for " + k, x.as(3, k), (are[kind] >> k & 1) == 1 ? 5 : -6);
            }
            Check.due("28: k 7", x.as(3, 7), NONE);
            Check.due("28: k -1", x.as(3, -1), NONE);
            Check.due("28: chief 4", x.as(4, 0), NONE);
            Check.due("28: chief -1", x.as(-1, 0), NONE);
        }
    }

    private static void image() {
        ChiefGrades x = new ChiefGrades();
        Check.due("30: no image", x.undo(), STATE);
        Check.due("29: nobody", x.image(), 0);
        x.chief(0, 0, 0);
        x.worker(0, 1, 1, 1);
        Check.due("30: nobody", x.undo(), 0);
        Check.due("30: no chief", x.count(1), 0);
        Check.due("30: an image stays", x.undo(), 0);
        x.chief(3, 4, 0);
        x.worker(0, 10, 20, 1);
        Check.due("29: one", x.image(), 1);
        x.worker(0, 10, 20, 1);
        x.set(0, 0, 99);
        Check.due("30: one", x.undo(), 1);
        Check.due("30: its worth", x.of(0, 0), 10);
        x.set(0, 0, 98);
        Check.due("30: once more", x.undo(), 1);
        Check.due("30: its worth once more", x.of(0, 0), 10);
        Check.due("30: the newest image", x.by(0, 1), 4);
    }

    /** Everything is made otherwise behind the image, then all is asked. */
    private static void imageOfAll() {
        ChiefGrades x = new ChiefGrades();
        Check.house(x, "five 3;one 5;pay 4;more 5 w=0");
        x.chief(6, 3, 2);
        x.chief(2, 1, 8);
        for (int i = 0; i < 3; i++) x.worker(i % 2, 30 + 20 * i, 40 + i, i);
        x.fresh(11, 12);
        x.year();
        x.book(0, 0, 4);
        x.book(0, 1, 2);
        Check.feed(x, "one 7");
        long[] before = all(x);
        Check.due("29: three", x.image(), 3);
        Check.due("30: at once", x.undo(), 3);
        same("30: at once", all(x), before);
        x.house();
        Check.house(x, "more 90 w=1");
        Check.feed(x, "xyz");
        x.chief(4, 0, 0);
        x.worker(2, 5, 5, 5);
        x.move(0, 2);
        for (int i = 0; i < 3; i++) x.set(1, i, 7);
        x.fresh(1, 2);
        x.clear();
        x.book(2, 1, 1);
        x.year();
        Check.due("30: three", x.undo(), 3);
        same("30: all", all(x), before);
        Check.due("30: the tape", x.house(), 1);
        Check.due("30: as it was told", x.told(1), 7);
        Check.due("30: the chiefs", x.chief(5, 9, 9), 2);
        Check.due("30: the new chief", x.by(2, 0), 5);
        Check.due("30: the workers", x.worker(2, 9, 9, 9), 3);
        Check.due("30: the rows", x.book(3, 2, 1), 3);
        Check.due("30: again three", x.undo(), 3);
        same("30: all again", all(x), before);
    }

    private static long[] all(ChiefGrades x) {
        java.util.List<Long> all = new java.util.ArrayList<>();
        for (int i = 0; i < 5; i++) all.add((long) x.count(i));
        for (int i = 0; i < 6; i++) all.add((long) x.told(i));
        for (int i = 0; i < 4; i++) {
            for (int k = 0; k < 9; k++) all.add((long) x.of(i, k));
            for (int k = 0; k < 5; k++) all.add((long) x.by(i, k));
            all.add((long) x.nets(i));
            all.add(x.leans(0, i, 0));
        }
        all.add((long) x.looked());
        all.add((long) x.nets(-1));
        return all.stream().mapToLong(n -> n).toArray();
    }

    private static void same(String what, long[] got, long[] want) {
        for (int i = 0; i < want.length; i++) Check.due(what + ", answer " + i, got[i], want[i]);
    }

    private static void imageWithoutTrace() {
        ChiefGrades x = third(4);
        x.act(3, 0, 1);
        x.image();
        x.act(3, 2, 1);
        x.undo();
        Check.due("30: the trace is not undone", x.trace(0), 41);
        Check.due("30: nor its length", x.count(5), 7);
        x.image();
        Check.due("29: an image is no act", x.count(5), 7);
    }

    private static void count() {
        ChiefGrades x = new ChiefGrades();
        Check.house(x, "pay 1");
        Check.feed(x, "abc");
        x.chief(0, 0, 0);
        x.chief(1, 0, 0);
        for (int i = 0; i < 5; i++) x.worker(0, 1, 1, 1);
        for (int i = 0; i < 4; i++) x.book(i, 0, 1);
        x.act(1, 2, 0);
        int[] due = {5, 2, 1, 4, 3, 4};
        for (int what = 0; what < 6; what++) Check.due("31: what " + what, x.count(what), due[what]);
        Check.due("31: what 6", x.count(6), NONE);
        Check.due("31: what -1", x.count(-1), NONE);
        Check.due("31: least", x.count(Integer.MIN_VALUE), NONE);
    }

    private static void constants() {
        Check.due("NONE", ChiefGrades.NONE, -1);
        Check.due("BAD", ChiefGrades.BAD, -2);
        Check.due("STATE", ChiefGrades.STATE, -3);
        Check.due("FULL", ChiefGrades.FULL, -4);
        Check.due("NO", ChiefGrades.NO, Long.MIN_VALUE);
    }
}
