import java.util.function.Supplier;

/**
 * The least and the greatest number that is told for each argument of each call, the ones just
 * beyond, and the ints' own ends: what is taken, what is refused, and that a refused call leaves
 * all as it was.
 */
public final class BoundsTest {
    private static final int NONE = ChiefGrades.NONE, BAD = ChiefGrades.BAD;
    private static final int NO_SUCH = -1001, BAD_YEARS = -1002;
    private static final long NO = ChiefGrades.NO;
    private static final int[][] SIZES = {{1, 1}, {2, 3}, {3, 9}, {4, 10}};

    /** One argument of a call is n, the others are as told. */
    private interface Call {
        long on(ChiefGrades x, int n);
    }

    public static void main(String[] args) {
        signs();
        whats();
        chiefs();
        workers();
        sets();
        fresh();
        grades();
        years();
        chances();
        books();
        acts();
        Check.end("BoundsTest");
    }

    private static void within(String what, Supplier<ChiefGrades> scene, int least, int most, long refusal, Call call) {
        takes(what, scene.get(), least, refusal, call);
        takes(what, scene.get(), most, refusal, call);
        refuses(what, scene, least - 1, refusal, call);
        refuses(what, scene, most + 1, refusal, call);
        refuses(what, scene, Integer.MIN_VALUE, refusal, call);
        refuses(what, scene, Integer.MAX_VALUE, refusal, call);
    }

    private static void takes(String what, ChiefGrades x, int n, long refusal, Call call) {
        Check.due(what + " " + n + " is refused", call.on(x, n) == refusal ? 1 : 0, 0);
    }

    /** A twin of the same scene is not asked; both then read their TAPES. */
    private static void refuses(String what, Supplier<ChiefGrades> scene, int n, long refusal, Call call) {
        ChiefGrades x = scene.get(), twin = scene.get();
        long[] before = Look.at(x);
        Check.due(what + " " + n, call.on(x, n), refusal);
        Look.same(what + " " + n, x, before);
        Check.due(what + " " + n + ", then house", x.house(), twin.house());
        Look.same(what + " " + n + ", then house", x, Look.at(twin));
    }

    /** What was taken can be read again. */
    private static void reads(String what, Supplier<ChiefGrades> scene, int least, int most, Call call, Call read) {
        for (int n : new int[] {least, most}) {
            ChiefGrades x = scene.get();
            call.on(x, n);
            Check.due(what + " " + n + " is there", read.on(x, n), n);
        }
    }

    private static void signs() {
        within("2: sign", Scene::some, 0, 127, BAD, (x, n) -> x.feed(n));
    }

    private static void whats() {
        within("4: what", Scene::some, 0, 5, NONE, (x, n) -> x.told(n));
        within("31: what", Scene::some, 0, 5, NONE, (x, n) -> x.count(n));
        for (int[] size : SIZES) {
            Supplier<ChiefGrades> scene = () -> Scene.of(size[0], size[1]);
            int lastChief = size[0] - 1, lastWorker = size[1] - 1;
            within("7: worker", scene, 0, lastWorker, NO_SUCH, (x, n) -> x.of(n, 0));
            within("7: what", scene, 0, 8, NO_SUCH, (x, n) -> x.of(lastWorker, n));
            within("8: chief", scene, 0, lastChief, NONE, (x, n) -> x.by(n, 0));
            within("8: what", scene, 0, 4, NONE, (x, n) -> x.by(lastChief, n));
        }
    }

    private static void chiefs() {
        Supplier<ChiefGrades> one = () -> Scene.of(1, 1), three = () -> Scene.of(3, 9);
        for (Supplier<ChiefGrades> scene : java.util.List.of(ChiefGrades::new, one, Scene::some, three)) {
            within("5: kind", scene, 0, 6, NONE, (x, n) -> x.chief(n, 5, 5));
            within("5: v", scene, 0, 9, BAD, (x, n) -> x.chief(6, n, 5));
            within("5: desk", scene, 0, 9, BAD, (x, n) -> x.chief(6, 5, n));
            reads("5: kind", scene, 0, 6, (x, n) -> x.chief(n, 5, 5), (x, n) -> x.by(x.count(1) - 1, 0));
            reads("5: v", scene, 0, 9, (x, n) -> x.chief(6, n, 5), (x, n) -> x.by(x.count(1) - 1, 1));
            reads("5: desk", scene, 0, 9, (x, n) -> x.chief(6, 5, n), (x, n) -> x.by(x.count(1) - 1, 2));
        }
    }

    private static void workers() {
        for (int[] size : new int[][] {{1, 0}, {2, 3}, {4, 9}}) {
            Supplier<ChiefGrades> scene = () -> Scene.of(size[0], size[1]);
            within("6: chief", scene, 0, size[0] - 1, NONE, (x, n) -> x.worker(n, 5, 5, 5));
            within("6: worth", scene, 0, 99, BAD, (x, n) -> x.worker(0, n, 5, 5));
            within("6: late", scene, 0, 99, BAD, (x, n) -> x.worker(0, 5, n, 5));
            within("6: desk", scene, 0, 9, BAD, (x, n) -> x.worker(0, 5, 5, n));
            reads("6: chief", scene, 0, size[0] - 1, (x, n) -> x.worker(n, 5, 5, 5), (x, n) -> x.of(size[1], 2));
            reads("6: worth", scene, 0, 99, (x, n) -> x.worker(0, n, 5, 5), (x, n) -> x.of(size[1], 0));
            reads("6: late", scene, 0, 99, (x, n) -> x.worker(0, 5, n, 5), (x, n) -> x.of(size[1], 1));
            reads("6: desk", scene, 0, 9, (x, n) -> x.worker(0, 5, 5, n), (x, n) -> x.of(size[1], 3));
        }
    }

    private static void sets() {
        int[] most = {99, 99, 9};
        int[] place = {0, 1, 3};
        for (int[] size : SIZES) {
            Supplier<ChiefGrades> scene = () -> Scene.of(size[0], size[1]);
            int lastChief = size[0] - 1, lastWorker = size[1] - 1;
            within("9: worker", scene, 0, lastWorker, NONE, (x, n) -> x.move(n, 0));
            within("9: chief", scene, 0, lastChief, NONE, (x, n) -> x.move(lastWorker, n));
            reads("9: chief", scene, 0, lastChief, (x, n) -> x.move(lastWorker, n), (x, n) -> x.of(lastWorker, 2));
            within("10: worker", scene, 0, lastWorker, NONE, (x, n) -> x.set(n, 0, 5));
            within("10: what", scene, 0, 2, NONE, (x, n) -> x.set(lastWorker, n, 5));
            for (int i = 0; i < 3; i++) {
                int what = i;
                within("10: of what " + i, scene, 0, most[i], BAD, (x, n) -> x.set(lastWorker, what, n));
                reads("10: of what " + i, scene, 0, most[i], (x, n) -> x.set(lastWorker, what, n),
                    (x, n) -> x.of(lastWorker, place[what]));
            }
        }
    }

    private static void fresh() {
        within("11: worth", Scene::some, 0, 99, BAD, (x, n) -> x.fresh(n, 5));
        within("11: late", Scene::some, 0, 99, BAD, (x, n) -> x.fresh(5, n));
        reads("11: worth", Scene::some, 0, 99, (x, n) -> x.fresh(n, 5), (x, n) -> x.told(4));
        reads("11: late", Scene::some, 0, 99, (x, n) -> x.fresh(5, n), (x, n) -> x.told(5));
    }

    private static void grades() {
        for (int[] size : SIZES) {
            Supplier<ChiefGrades> scene = () -> Scene.of(size[0], size[1]);
            int lastChief = size[0] - 1, lastWorker = size[1] - 1;
            within("12: worker", scene, 0, lastWorker, NO_SUCH, (x, n) -> x.mark(n, lastChief));
            within("12: chief", scene, 0, lastChief, NO_SUCH, (x, n) -> x.mark(lastWorker, n));
            within("13: what", scene, 0, 2, NONE, (x, n) -> x.wrong(n));
            within("14: worker", scene, 0, lastWorker, NONE, (x, n) -> x.moved(n, lastChief));
            within("14: chief", scene, 0, lastChief, NONE, (x, n) -> x.moved(lastWorker, n));
            within("15: worker", scene, 0, lastWorker, NONE, (x, n) -> x.best(n, 1));
            within("15: what", scene, 0, 1, NONE, (x, n) -> x.best(lastWorker, n));
            within("16: chief", scene, 0, lastChief, NONE, (x, n) -> x.asked(n, 0));
            within("16: n", scene, 0, 50, BAD, (x, n) -> x.asked(lastChief, n));
            within("17: what", scene, 0, 1, NONE, (x, n) -> x.swap(n));
        }
    }

    private static void years() {
        for (int[] size : SIZES) {
            Supplier<ChiefGrades> scene = () -> Scene.of(size[0], size[1]);
            for (int i = 0; i < 4; i++) {
                int way = i;
                within("19: n", scene, 0, 20, BAD_YEARS, (x, n) -> x.years(n, way, 1));
                within("19: what", scene, 0, 1, NO_SUCH, (x, n) -> x.years(2, way, n));
                within("19: pay of", scene, 10, 9 + size[1], NO_SUCH, (x, n) -> x.years(2, way, n));
            }
            for (int n = 2; n < 10; n++) Check.due("19: what " + n, scene.get().years(2, 0, n), NO_SUCH);
            within("19: way", scene, 0, 3, NO_SUCH, (x, n) -> x.years(2, n, 1));
        }
        within("19: what, nobody", ChiefGrades::new, 0, 1, NO_SUCH, (x, n) -> x.years(2, 0, n));
        Check.due("19: pay of nobody", new ChiefGrades().years(2, 0, 10), NO_SUCH);
    }

    private static void chances() {
        within("20: h", Scene::some, 1, 30, NO, (x, n) -> x.chance(n, 0, 0, 0, 0));
        for (int i = 1; i <= 30; i++) {
            int h = i;
            within("20: g of " + h, ChiefGrades::new, 0, h, NO, (x, n) -> x.chance(h, n, h, 0, 0));
            within("20: n of " + h, ChiefGrades::new, 0, h, NO, (x, n) -> x.chance(h, h, n, 0, 1));
            within("20: m of " + h, ChiefGrades::new, 0, h, NO, (x, n) -> x.chance(30, 15, h, n, 1));
        }
        within("20: part", Scene::some, 0, 1, NO, (x, n) -> x.chance(10, 2, 3, 1, n));
    }

    private static void books() {
        for (int[] size : SIZES) {
            Supplier<ChiefGrades> scene = () -> Scene.of(size[0], size[1]);
            int lastChief = size[0] - 1, lastWorker = size[1] - 1;
            within("21: worker", scene, 0, lastWorker, NONE, (x, n) -> x.book(n, lastChief, 3));
            within("21: chief", scene, 0, lastChief, NONE, (x, n) -> x.book(lastWorker, n, 3));
            within("21: grade", scene, 1, 5, BAD, (x, n) -> x.book(lastWorker, lastChief, n));
            within("23: chief", scene, -1, lastChief, NONE, (x, n) -> x.nets(n));
        }
        Supplier<ChiefGrades> joined = () -> {
            ChiefGrades x = Scene.of(4, 10);
            for (int c = 0; c < 4; c++) x.book(9, c, 1 + c);
            return x;
        };
        within("24: one", joined, 0, 2, NO, (x, n) -> x.leans(n, 3, 0));
        within("24: other", joined, 1, 3, NO, (x, n) -> x.leans(0, n, 0));
        within("24: one, beyond", joined, 1, 3, NO, (x, n) -> x.leans(n, 0, 0));
        within("24: other, beyond", joined, 0, 2, NO, (x, n) -> x.leans(3, n, 0));
        within("24: part", joined, 0, 1, NO, (x, n) -> x.leans(0, 3, n));
    }

    private static void acts() {
        for (int bodies = 1; bodies < 4; bodies++) {
            int act = bodies - 1;
            Supplier<ChiefGrades> scene = () -> {
                ChiefGrades x = Scene.of(4, 10);
                x.act(0, act, 5);
                return x;
            };
            within("27: i", scene, 0, act, NONE, (x, n) -> x.trace(n));
        }
        for (int[] size : SIZES) {
            Supplier<ChiefGrades> scene = () -> Scene.of(size[0], size[1]);
            int lastChief = size[0] - 1;
            within("26: chief", scene, 0, lastChief, 0, (x, n) -> x.act(n, 0, 50));
            within("26: act", scene, 0, 2, 0, (x, n) -> x.act(lastChief, n, 50));
            within("28: chief", scene, 0, lastChief, NONE, (x, n) -> x.as(n, 0));
            within("28: k", scene, 0, 6, NONE, (x, n) -> x.as(lastChief, n));
        }
    }
}
