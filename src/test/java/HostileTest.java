import java.lang.reflect.Method;
import java.util.ArrayList;
import java.util.Arrays;
import java.util.List;
import java.util.Random;

/** No call throws, whatever it is given; what is refused or asked changes nothing. */
public final class HostileTest {
    private static final int[] ODD = {Integer.MIN_VALUE, Integer.MIN_VALUE + 1, -1002, -1001, -100, -11, -10, -6, -5, -4,
        -3, -2, -1, 0, 1, 2, 3, 4, 5, 6, 7, 8, 9, 10, 11, 19, 20, 21, 30, 31, 32, 50, 51, 64, 99, 100, 127, 128, 1000,
        Integer.MAX_VALUE - 1, Integer.MAX_VALUE};
    private static final List<String> ASKING = List.of("told", "of", "by", "mark", "wrong", "moved", "best", "asked",
        "swap", "years", "chance", "nets", "leans", "looked", "trace", "as", "count");

    public static void main(String[] args) throws Exception {
        for (int seed = 0; seed < 300; seed++) odd(new Random(seed));
        Check.end("HostileTest");
    }

    private static List<Method> calls() {
        List<Method> calls = new ArrayList<>();
        for (Method m : ChiefGrades.class.getDeclaredMethods()) {
            if (java.lang.reflect.Modifier.isPublic(m.getModifiers())) calls.add(m);
        }
        calls.sort(java.util.Comparator.comparing(Method::getName));
        return calls;
    }

    private static void odd(Random random) throws Exception {
        List<Method> calls = calls();
        Check.due("calls of the face", calls.size(), 30);
        ChiefGrades x = new ChiefGrades();
        int chiefs = random.nextInt(5), workers = random.nextInt(11);
        if (random.nextBoolean()) Check.house(x, new Texts(random).house());
        for (int i = 0; i < chiefs; i++) x.chief(random.nextInt(7), random.nextInt(10), random.nextInt(10));
        for (int i = 0; i < workers; i++) {
            x.worker(random.nextInt(4), random.nextInt(100), random.nextInt(100), random.nextInt(10));
        }
        long[] before = all(x);
        for (int i = 0; i < 1000; i++) {
            Method call = calls.get(random.nextInt(calls.size()));
            Object[] args = new Object[call.getParameterCount()];
            for (int k = 0; k < args.length; k++) args[k] = ODD[random.nextInt(ODD.length)];
            long got = ((Number) call.invoke(x, args)).longValue();
            long[] after = all(x);
            boolean mayChange = !ASKING.contains(call.getName()) && (got >= 0 || call.getName().equals("house"));
            if (call.getName().equals("act") || call.getName().equals("image")) mayChange = false;
            if (!mayChange) {
                Check.due(call.getName() + Arrays.toString(args) + " changed what is", Arrays.equals(before, after) ? 1 : 0, 1);
            }
            before = after;
        }
    }

    private static long[] all(ChiefGrades x) {
        long[] all = new long[200];
        int n = 0;
        for (int i = 0; i < 5; i++) all[n++] = x.count(i);
        for (int i = 0; i < 6; i++) all[n++] = x.told(i);
        for (int i = 0; i < 10; i++) {
            for (int k = 0; k < 6; k++) all[n++] = x.of(i, k);
        }
        for (int i = 0; i < 4; i++) {
            for (int k = 0; k < 5; k++) all[n++] = x.by(i, k);
            all[n++] = x.nets(i);
            all[n++] = x.leans(i, 1, 0);
        }
        all[n] = x.looked();
        return all;
    }
}
