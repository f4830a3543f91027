import java.util.Arrays;

/**
 * All that can be asked of an object, in one row; which signs are on THE TAPE only house() tells.
 * A look asks several hundred calls: the class counts none, so that going beyond 512 is no matter.
 */
final class Look {
    private long[] answers = new long[1000];
    private int size;

    private Look() {
    }

    static long[] at(ChiefGrades x) {
        Look look = new Look();
        look.counts(x);
        look.workers(x);
        look.chiefs(x);
        look.grades(x);
        look.acts(x);
        return Arrays.copyOf(look.answers, look.size);
    }

    static void same(String what, ChiefGrades x, long[] want) {
        long[] got = at(x);
        Check.due(what + ": how many answers", got.length, want.length);
        for (int i = 0; i < want.length && i < got.length; i++) {
            if (got[i] != want[i]) Check.due(what + ": the look's answer " + i, got[i], want[i]);
        }
    }

    private void add(long answer) {
        answers[size++] = answer;
    }

    private void counts(ChiefGrades x) {
        for (int what = -1; what < 7; what++) add(x.count(what));
        for (int what = -1; what < 7; what++) add(x.told(what));
        for (int i = -1; i < 8; i++) add(x.trace(i));
    }

    private void workers(ChiefGrades x) {
        for (int w = 0; w < 11; w++) {
            for (int what = 0; what < 9; what++) add(x.of(w, what));
            for (int c = 0; c < 4; c++) add(x.mark(w, c));
            add(x.best(w, 0));
            add(x.best(w, 1));
        }
    }

    private void chiefs(ChiefGrades x) {
        for (int c = -1; c < 5; c++) {
            for (int what = 0; what < 5; what++) add(x.by(c, what));
            add(x.asked(c, 20));
            add(x.nets(c));
            for (int other = 0; other < 4; other++) add(x.leans(c, other, 0));
            for (int k = 0; k < 7; k++) add(x.as(c, k));
        }
    }

    private void grades(ChiefGrades x) {
        for (int what = 0; what < 3; what++) add(x.wrong(what));
        for (int what = 0; what < 2; what++) add(x.swap(what));
        for (int way = 0; way < 4; way++) {
            add(x.years(20, way, 0));
            add(x.years(3, way, 1));
        }
        add(x.looked());
    }

    private void acts(ChiefGrades x) {
        add(x.chance(10, 2, 3, 0, 1));
    }
}
