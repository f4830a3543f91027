import java.util.Random;

/** All promises: long runs of calls, each answer held against the model's. */
public final class ModelTest {
    private static final int RUNS = 4000, CALLS = 512;

    private final Random random;
    private final int run;
    private ChiefGrades x = new ChiefGrades();
    private Model model = new Model();
    private int calls;

    private ModelTest(int run) {
        this.run = run;
        random = new Random(run * 7919L + 17);
    }

    public static void main(String[] args) {
        for (int run = 0; run < RUNS; run++) new ModelTest(run).go();
        texts();
        chances();
        Check.end("ModelTest");
    }

    private void go() {
        boolean small = run % 4 == 0;
        if (!small) {
            int chiefs = 1 + random.nextInt(4), workers = random.nextInt(11);
            for (int i = 0; i < chiefs; i++) call(3, random.nextInt(7), random.nextInt(10), random.nextInt(10));
            for (int i = 0; i < workers; i++) {
                call(4, random.nextInt(chiefs), random.nextInt(100), random.nextInt(100), random.nextInt(10));
            }
        }
        if (run % 3 != 0) tell(new Texts(random).house());
        while (calls < CALLS) step();
    }

    private void step() {
        int op = random.nextInt(42);
        if (op == 1) {
            tell(new Texts(random).any());
        } else if (op == 0) {
            call(0, random.nextInt(10) == 0 ? any() : random.nextInt(128));
        } else if (op == 29) {
            call(29, number(7));
        } else if (op >= 30) {
            asked(op);
        } else {
            call(op, arguments(op));
        }
    }

    /** More of what few chance calls would reach. */
    private void asked(int op) {
        int w = random.nextInt(10), c = random.nextInt(4);
        switch (op) {
            case 30: case 31: call(6, w, 4 + random.nextInt(5)); break;
            case 32: call(10 + 4, w, random.nextInt(2)); break;
            case 33: call(15, c, random.nextInt(45)); break;
            case 34: call(18, 1 + random.nextInt(20), random.nextInt(4), random.nextInt(14)); break;
            case 35: call(20, w, c, 1 + random.nextInt(5)); break;
            case 36: call(24, c, random.nextInt(4), random.nextInt(2)); break;
            case 37: call(22 + 1, random.nextInt(5) - 1); break;
            case 38: call(25, c, random.nextInt(3), random.nextInt()); break;
            case 39: call(12, random.nextInt(3)); break;
            case 40: call(13, w, c); break;
            default: call(16, random.nextInt(2));
        }
    }

    private static final int[][] BOUNDS = {
        {128}, {}, {6}, {7, 10, 10}, {4, 100, 100, 10}, {4, 5}, {10, 9}, {10, 4}, {10, 3, 100}, {100, 100},
        {10, 4}, {3}, {3}, {10, 4}, {10, 2}, {4, 51}, {2}, {}, {21, 4, 20}, {31, 31, 31, 31, 2},
        {10, 4, 6}, {}, {}, {4}, {4, 4, 2}, {4, 3, 1000}, {20}, {4, 7}, {}, {}};

    private int[] arguments(int op) {
        int[] args = new int[BOUNDS[op].length];
        for (int i = 0; i < args.length; i++) args[i] = number(BOUNDS[op][i]);
        return args;
    }

    private int number(int bound) {
        return random.nextInt(40) == 0 ? any() : random.nextInt(30) == 0 ? bound : random.nextInt(bound);
    }

    private int any() {
        switch (random.nextInt(5)) {
            case 0: return Integer.MIN_VALUE;
            case 1: return Integer.MAX_VALUE;
            case 2: return -1;
            case 3: return random.nextInt();
            default: return random.nextInt(1000) - 300;
        }
    }

    private void tell(String text) {
        for (int i = 0; i < text.length(); i++) call(0, text.charAt(i));
        call(1);
    }

    private void call(int op, int... a) {
        calls++;
        if (calls > CALLS) return;
        long got, want;
        switch (op) {
            case 0: got = x.feed(a[0]); want = model.feed(a[0]); break;
            case 1: got = x.house(); want = model.house(); break;
            case 2: got = x.told(a[0]); want = model.told(a[0]); break;
            case 3: got = x.chief(a[0], a[1], a[2]); want = model.chief(a[0], a[1], a[2]); break;
            case 4: got = x.worker(a[0], a[1], a[2], a[3]); want = model.worker(a[0], a[1], a[2], a[3]); break;
            case 5: got = x.by(a[0], a[1]); want = model.by(a[0], a[1]); break;
            case 6: got = x.of(a[0], a[1]); want = model.of(a[0], a[1]); break;
            case 7: got = x.move(a[0], a[1]); want = model.move(a[0], a[1]); break;
            case 8: got = x.set(a[0], a[1], a[2]); want = model.set(a[0], a[1], a[2]); break;
            case 9: got = x.fresh(a[0], a[1]); want = model.fresh(a[0], a[1]); break;
            case 10: got = x.mark(a[0], a[1]); want = model.mark(a[0], a[1]); break;
            case 11: got = x.wrong(a[0]); want = model.wrong(a[0]); break;
            case 12: got = x.wrong(a[0]); want = model.wrong(a[0]); break;
            case 13: got = x.moved(a[0], a[1]); want = model.moved(a[0], a[1]); break;
            case 14: got = x.best(a[0], a[1]); want = model.best(a[0], a[1]); break;
            case 15: got = x.asked(a[0], a[1]); want = model.asked(a[0], a[1]); break;
            case 16: got = x.swap(a[0]); want = model.swap(a[0]); break;
            case 17: got = x.year(); want = model.year(); break;
            case 18: got = x.years(a[0], a[1], a[2]); want = model.years(a[0], a[1], a[2]); break;
            case 19: got = x.chance(a[0], a[1], a[2], a[3], a[4]);
                want = model.chance(a[0], a[1], a[2], a[3], a[4]); break;
            case 20: got = x.book(a[0], a[1], a[2]); want = model.book(a[0], a[1], a[2]); break;
            case 21: got = seldom() ? x.clear() : 0; want = last ? model.clear() : 0; break;
            case 22: got = x.looked(); want = model.looked(); break;
            case 23: got = x.nets(a[0]); want = model.nets(a[0]); break;
            case 24: got = x.leans(a[0], a[1], a[2]); want = model.leans(a[0], a[1], a[2]); break;
            case 25: got = x.act(a[0], a[1], a[2]); want = model.act(a[0], a[1], a[2]); break;
            case 26: got = x.trace(a[0]); want = model.trace(a[0]); break;
            case 27: got = x.as(a[0], a[1]); want = model.as(a[0], a[1]); break;
            case 28: got = seldom() ? x.undo() : x.image(); want = last ? model.undo() : model.image(); break;
            default: got = x.count(a[0]); want = model.count(a[0]);
        }
        Check.due("run " + run + " call " + calls + " op " + op + java.util.Arrays.toString(a), got, want);
    }

    private boolean last;

    private boolean seldom() {
        last = random.nextInt(3) == 0;
        return last;
    }

    /** Many texts, true and spoilt, on objects of their own. */
    private static void texts() {
        Random random = new Random(5);
        Texts texts = new Texts(random);
        for (int i = 0; i < 30000; i++) {
            String text = texts.any();
            ChiefGrades x = new ChiefGrades();
            Model model = new Model();
            Check.feed(x, text);
            for (int k = 0; k < text.length(); k++) model.feed(text.charAt(k));
            Check.due("house of '" + text + "'", x.house(), model.house());
            for (int k = 0; k < 3; k++) Check.due("told " + k + " by '" + text + "'", x.told(k), model.told(k));
        }
    }

    /** Every chance there is. */
    private static void chances() {
        Model model = new Model();
        for (int h = 0; h <= 31; h += h % 6 == 5 ? 2 : 1) {
            for (int g = -1; g <= h + 1; g++) {
                for (int n = -1; n <= h + 1; n++) {
                    ChiefGrades x = new ChiefGrades();
                    for (int m = -1; m <= n + 1; m++) {
                        int part = (h + g + n + m) & 1;
                        Check.due("chance " + h + " " + g + " " + n + " " + m + " " + part,
                                x.chance(h, g, n, m, part), model.chance(h, g, n, m, part));
                    }
                }
            }
        }
    }
}
