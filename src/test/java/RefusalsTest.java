import java.util.List;
import java.util.Random;

/**
 * Which refusal goes first where several are due, and that refused calls and asking calls change
 * nothing: not what is seen at once, not what is seen later, not the signs on THE TAPE.
 */
public final class RefusalsTest {
    private static final int NONE = ChiefGrades.NONE, BAD = ChiefGrades.BAD;
    private static final int STATE = ChiefGrades.STATE, FULL = ChiefGrades.FULL;
    private static final long NO = ChiefGrades.NO;
    // of each argument: one that is taken, then those that are not
    private static final int[] KIND = {6, -1, 7, Integer.MIN_VALUE, Integer.MAX_VALUE};
    private static final int[] DIGIT = {9, -1, 10, Integer.MIN_VALUE, Integer.MAX_VALUE};
    private static final int[] WORTH = {99, -1, 100, Integer.MIN_VALUE, Integer.MAX_VALUE};
    private static final int[] CHIEF = {1, -1, 4, Integer.MIN_VALUE, Integer.MAX_VALUE};
    private static final int[] WORKER = {2, -1, 10, Integer.MIN_VALUE, Integer.MAX_VALUE};
    private static final int[] GRADE = {5, 0, 6, Integer.MIN_VALUE, Integer.MAX_VALUE};
    private static final int[] WAY = {3, -1, 4, Integer.MIN_VALUE, Integer.MAX_VALUE};
    private static final int[] YEARS = {20, -1, 21, Integer.MIN_VALUE, Integer.MAX_VALUE};
    private static final int[] ASKED = {50, -1, 51, Integer.MIN_VALUE, Integer.MAX_VALUE};

    private final ChiefGrades full = Scene.full();

    public static void main(String[] args) {
        all();
        lastYear();
        noImage();
        houses();
        twins();
        Check.end("RefusalsTest");
    }

    private static void all() {
        long[] before = Look.at(Scene.full());
        for (int i = 0; i < 5; i++) {
            for (int j = 0; j < 5; j++) {
                RefusalsTest test = new RefusalsTest();
                test.all(i, j);
                Look.same("refused calls of what is full", test.full, before);
                Check.due("refused calls of what is full: its house", test.full.house(), FULL);
            }
        }
    }

    private void all(int i, int j) {
        two(i, j);
        for (int k = 0; k < 5; k++) {
            three(i, j, k);
            for (int l = 0; l < 5; l++) four(i, j, k, l);
        }
    }

    /** The refusal of what is full: NONE, then BAD, then FULL. */
    private static int first(boolean none, boolean bad) {
        return none ? NONE : bad ? BAD : FULL;
    }

    private void two(int i, int j) {
        String at = " with " + i + " " + j;
        boolean none = i > 0 || j > 0;
        Check.due("2: sign" + at, full.feed(i > 0 ? -i : 128 + j), BAD);
        if (none) {
            Check.due("9: move" + at, full.move(WORKER[i], CHIEF[j]), NONE);
            Check.due("12: mark" + at, full.mark(WORKER[i], CHIEF[j]), -1001);
            Check.due("14: moved" + at, full.moved(WORKER[i], CHIEF[j]), NONE);
            Check.due("28: as" + at, full.as(CHIEF[i], KIND[j]), NONE);
            Check.due("7: of" + at, full.of(WORKER[i], j == 0 ? 8 : j == 2 ? 9 : KIND[j]), -1001);
            Check.due("16: asked" + at, full.asked(CHIEF[i], ASKED[j]), i > 0 ? NONE : BAD);
            Check.due("11: fresh" + at, full.fresh(WORTH[i], WORTH[j]), BAD);
        }
        if (i > 0) Check.due("28: as" + at + ": NONE ahead of -6", full.as(CHIEF[i], 5), NONE);
    }

    private void three(int i, int j, int k) {
        String at = " with " + i + " " + j + " " + k;
        Check.due("5: chief" + at, full.chief(KIND[i], DIGIT[j], DIGIT[k]), first(i > 0, j > 0 || k > 0));
        Check.due("21: book" + at, full.book(WORKER[i], CHIEF[j], GRADE[k]), first(i > 0 || j > 0, k > 0));
        if (i > 0 || j > 0 || k > 0) {
            int what = j == 0 ? 0 : WAY[j];
            Check.due("10: set" + at, full.set(WORKER[i], what, WORTH[k]), i > 0 || j > 0 ? NONE : BAD);
            Check.due("24: leans" + at, full.leans(CHIEF[i], j == 0 ? 2 : CHIEF[j], k == 0 ? 1 : k + 1), NO);
            int pay = j == 0 ? 19 : j == 2 ? 20 : CHIEF[j];
            Check.due("19: years" + at, full.years(YEARS[k], WAY[i], pay), i > 0 || j > 0 ? -1001 : -1002);
        }
    }

    private void four(int i, int j, int k, int l) {
        String at = " with " + i + " " + j + " " + k + " " + l;
        Check.due("6: worker" + at, full.worker(CHIEF[i], WORTH[j], WORTH[k], DIGIT[l]),
            first(i > 0, j > 0 || k > 0 || l > 0));
        ChiefGrades x = full;
        if (i > 0 || j > 0 || k > 0 || l > 0) {
            int h = i == 0 ? 20 : i == 1 ? 0 : i == 2 ? 31 : CHIEF[i];
            Check.due("20: chance" + at, x.chance(h, j == 0 ? 3 : YEARS[j], k == 0 ? 3 : YEARS[k], l == 0 ? 1 : CHIEF[l], 0), NO);
        }
    }

    private static void lastYear() {
        ChiefGrades x = Scene.of(2, 3);
        for (int i = 0; i < 99; i++) {
            Check.due("18: the year " + i, x.told(3), i);
            Check.due("18: a year more than " + i, x.year() >= 0 ? 1 : 0, 1);
        }
        x.fresh(77, 78);
        long[] before = Look.at(x);
        for (int i = 0; i < 3; i++) {
            Check.due("18: it is YEAR 99", x.year(), STATE);
            Look.same("18: it is YEAR 99", x, before);
        }
    }

    private static void noImage() {
        ChiefGrades x = Scene.full();
        long[] before = Look.at(Scene.full());
        Check.due("30: no image", x.undo(), STATE);
        Look.same("30: no image", x, before);
        x.image();
        Check.due("30: an image", x.undo(), 10);
        Look.same("30: an image", x, before);
    }

    /** FULL goes ahead of the FAULT of an empty, of a wrong, of a right TAPE, and all stay. */
    private static void houses() {
        for (String text : List.of("", "x", "one 1", "one 1;", Scene.hundred())) {
            ChiefGrades x = Scene.of(2, 3);
            for (int i = 0; i < 5; i++) Check.due("3: house " + i, Check.house(x, "pay " + i), i);
            Check.feed(x, text);
            long[] before = Look.at(x);
            for (int i = 0; i < 3; i++) {
                Check.due("3: a sixth of '" + text + "'", x.house(), FULL);
                Look.same("3: a sixth of '" + text + "'", x, before);
            }
            Check.due("3: THE TAPE stays", x.count(4), text.length());
        }
    }

    /** Two objects do the same; one of them is asked and refused between. */
    private static void twins() {
        for (int seed = 0; seed < 800; seed++) {
            Random plain = new Random(seed), odd = new Random(seed + 1000);
            int chiefs = 1 + plain.nextInt(4), workers = plain.nextInt(11);
            ChiefGrades x = Scene.of(chiefs, workers), twin = Scene.of(chiefs, workers);
            for (int i = 0; i < 30; i++) {
                int op = plain.nextInt(14), a = plain.nextInt(), b = plain.nextInt();
                long got = act(x, op, a, b), want = act(twin, op, a, b);
                Check.due("seed " + seed + " call " + i + " op " + op, got, want);
                for (int k = odd.nextInt(4); k > 0; k--) refused(x, odd.nextInt(15), odd.nextInt(6));
                if (i == 20) Look.at(x);
            }
            Look.same("seed " + seed, x, Look.at(twin));
        }
    }

    private static long act(ChiefGrades x, int op, int a, int b) {
        int w = a >>> 28, c = a >>> 4 & 3, n = (b >>> 8) % 100, digit = b >>> 4 & 7;
        switch (op) {
            case 0: return x.chief(a >>> 29, digit, b >>> 29);
            case 1: case 2: return x.worker(c, n, (a >>> 8) % 100, digit);
            case 3: return x.move(w, c);
            case 4: return x.set(w, b & 1, n);
            case 5: return x.set(w, 2, digit);
            case 6: return x.fresh(n, digit);
            case 7: return x.year();
            case 8: return x.book(w, c, 1 + digit % 5);
            case 9: return x.act(c, digit % 3, a);
            case 10: return digit == 0 ? x.image() : digit == 1 ? x.undo() : digit == 2 ? x.clear() : 0;
            case 11: return Check.house(x, "five " + digit + ";one " + w + ";more " + n + " w<" + digit);
            case 12: return x.house();
            default: return x.feed("more 3 w=1;one 2"
                .charAt(Math.min(15, x.count(4))));
        }
    }

    /** Calls that are refused by any object. */
    private static void refused(ChiefGrades x, int op, int way) {
        int odd = new int[] {-1, -2, 128, 1000, Integer.MIN_VALUE, Integer.MAX_VALUE}[way];
        boolean first = way % 2 == 0;
        switch (op) {
            case 0: Check.due("2: feed", x.feed(odd), BAD); break;
            case 1: Check.due("5: kind", x.chief(odd, 1, 1), NONE); break;
            case 2: Check.due("5: v, desk", x.chief(1, first ? odd : 1, first ? 1 : odd), BAD); break;
            case 3: Check.due("6: chief", x.worker(odd, 1, 1, 1), NONE); break;
            case 4: if (x.count(1) > 0) Check.due("6: worth", x.worker(0, first ? odd : 1, first ? 1 : odd, 1), BAD); break;
            case 5: if (x.count(1) > 0) Check.due("6: desk", x.worker(0, 1, 1, odd), BAD); break;
            case 6: Check.due("9: move", x.move(first ? odd : 0, first ? 0 : odd), NONE); break;
            case 7: Check.due("10: set", x.set(first ? odd : 0, first ? 0 : odd, 1), NONE); break;
            case 8: if (x.count(0) > 0) Check.due("10: n", x.set(0, way % 3, odd), BAD); break;
            case 9: Check.due("11: fresh", x.fresh(first ? odd : 1, first ? 1 : odd), BAD); break;
            case 10: Check.due("21: book", x.book(first ? odd : 0, first ? 0 : odd, 1), NONE); break;
            case 11: if (x.count(0) > 0) Check.due("21: grade", x.book(0, 0, odd), BAD); break;
            case 12: Check.due("19: years", x.years(odd, 0, 0), -1002); break;
            case 13: Check.due("14: moved", x.moved(odd, 0), NONE); break;
            default: Check.due("16: asked", x.asked(odd, 0), NONE);
        }
    }
}
