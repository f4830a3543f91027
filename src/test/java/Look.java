import java.util.Arrays;

/**
 * What tells an object from another, in one row of some 120 answers at most, so that an object can
 * be looked at thrice within its 512 calls; which signs are on THE TAPE only house() tells.
 */
final class Look {
    private final long[] answers = new long[150];
    private int size;

    private Look(ChiefGrades x) {
        counts(x);
        workers(x);
        chiefs(x);
        grades(x);
    }

    static long[] at(ChiefGrades x) {
        Look look = new Look(x);
        look.trace(x);
        return look.all();
    }

    /** An act changes THE TRACE, and nothing but that. */
    static long[] butTrace(ChiefGrades x) {
        return new Look(x).all();
    }

    static void same(String what, ChiefGrades x, long[] want) {
        long[] got = at(x);
        Check.due(what + ": how many answers", got.length, want.length);
        for (int i = 0; i < want.length && i < got.length; i++) {
            if (got[i] != want[i]) Check.due(what + ": the look's answer " + i, got[i], want[i]);
        }
    }

    private void add(long answer) {
        answers[size++] = answer;
    }

    private void counts(ChiefGrades x) {
        for (int what = 0; what < 5; what++) add(x.count(what));
        for (int what = 0; what < 6; what++) add(x.told(what));
    }

    private void workers(ChiefGrades x) {
        for (int w = 0; w < answers[0]; w++) {
            for (int what = 0; what < 7; what++) add(x.of(w, what));
        }
    }

    private void chiefs(ChiefGrades x) {
        for (int c = 0; c < answers[1]; c++) {
            for (int what = 0; what < 3; what++) add(x.by(c, what));
            add(x.nets(c));
            for (int other = 0; other < c; other++) add(x.leans(c, other, 0));
        }
    }

    private void grades(ChiefGrades x) {
        add(x.wrong(0));
        add(x.swap(1));
        add(x.years(3, 2, 1));
        add(x.years(20, 0, 0));
        add(x.looked());
    }

    private void trace(ChiefGrades x) {
        add(x.count(5));
        for (int i = 0; i < 7; i++) add(x.trace(i));
    }

    private long[] all() {
        return Arrays.copyOf(answers, size);
    }
}
