import java.lang.reflect.Method;
import java.lang.reflect.Modifier;
import java.util.ArrayList;
import java.util.Arrays;
import java.util.Comparator;
import java.util.List;
import java.util.Random;

/** No call throws, whatever it is given; what is refused or asked changes nothing. */
public final class HostileTest {
    private static final int[] ODD = {Integer.MIN_VALUE, Integer.MIN_VALUE + 1, -1002, -1001, -100, -11, -10, -6, -5, -4,
        -3, -2, -1, 0, 1, 2, 3, 4, 5, 6, 7, 8, 9, 10, 11, 19, 20, 21, 30, 31, 32, 50, 51, 64, 99, 100, 127, 128, 1000,
        Integer.MAX_VALUE - 1, Integer.MAX_VALUE};
    // an act changes THE TRACE alone, an image nothing that can be asked for
    private static final List<String> ASKING = List.of("told", "of", "by", "mark", "wrong", "moved", "best", "asked",
        "swap", "years", "chance", "nets", "leans", "looked", "trace", "as", "count", "act", "image");

    private static final List<Method> CALLS = calls();

    private final Random random;
    private final ChiefGrades x = new ChiefGrades();
    private Method call;
    private Object[] args;

    private HostileTest(int seed) {
        random = new Random(seed);
        if (random.nextBoolean()) Check.house(x, new Texts(random).house());
        for (int i = random.nextInt(5); i > 0; i--) x.chief(random.nextInt(7), random.nextInt(10), random.nextInt(10));
        for (int i = random.nextInt(11); i > 0; i--) {
            x.worker(random.nextInt(4), random.nextInt(100), random.nextInt(100), random.nextInt(10));
        }
    }

    public static void main(String[] args) throws Exception {
        Check.due("calls of the face", CALLS.size(), 30);
        for (int seed = 0; seed < 20000; seed++) new HostileTest(seed).changesNothing();
        for (int seed = 0; seed < 50; seed++) new HostileTest(seed).goesOn();
        Check.end("HostileTest");
    }

    private static List<Method> calls() {
        List<Method> calls = new ArrayList<>();
        for (Method m : ChiefGrades.class.getDeclaredMethods()) {
            if (Modifier.isPublic(m.getModifiers())) calls.add(m);
        }
        calls.sort(Comparator.comparing(Method::getName));
        return calls;
    }

    private long odd() throws Exception {
        call = CALLS.get(random.nextInt(CALLS.size()));
        args = new Object[call.getParameterCount()];
        for (int k = 0; k < args.length; k++) args[k] = ODD[random.nextInt(ODD.length)];
        return ((Number) call.invoke(x, args)).longValue();
    }

    private void changesNothing() throws Exception {
        for (int i = 0; i < 30; i++) odd();
        long[] before = Look.butTrace(x);
        for (int i = 0; i < 2; i++) {
            boolean wasTaken = odd() >= 0 || call.getName().equals("house");
            long[] after = Look.butTrace(x);
            boolean mayChange = wasTaken && !ASKING.contains(call.getName());
            if (!mayChange) {
                Check.due(call.getName() + Arrays.toString(args) + " changed what is", Arrays.equals(before, after) ? 1 : 0, 1);
            }
            before = after;
        }
    }

    /** Beyond the 512 calls that are promised every answer is free, but none may throw. */
    private void goesOn() throws Exception {
        for (int i = 0; i < 3000; i++) odd();
    }
}
