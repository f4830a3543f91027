import java.lang.management.ManagementFactory;

/** All calls of a run live in one room: what the dearest runs make is counted in bytes. */
public final class RoomTest {
    // 7.3 million fields and elements and 600,000 objects, at 4 bytes each at least
    private static final long MOST_BYTES = 7_300_000L * 4;
    // with those that come first in a run it is 512 of them
    private static final int CALLS = 512 - 115;

    private static final com.sun.management.ThreadMXBean MEMORY =
        (com.sun.management.ThreadMXBean) ManagementFactory.getThreadMXBean();

    public static void main(String[] args) {
        for (int call = 0; call < 14; call++) {
            run(call);
            long from = MEMORY.getThreadAllocatedBytes(Thread.currentThread().getId());
            run(call);
            long made = MEMORY.getThreadAllocatedBytes(Thread.currentThread().getId()) - from;
            // a fourth of the room, since bytes tell of fields but roughly
            Check.due("call " + call + " made " + made, made < MOST_BYTES / 4 ? 1 : 0, 1);
        }
        Check.end("RoomTest");
    }

    private static void run(int call) {
        ChiefGrades x = new ChiefGrades();
        Check.house(x, "one 1;more 1 w=0|w=1|w=2|w=3|w=4|w=5|w=6|w=7|w=8|w=9|c=0|c=1|c=2|c=3|k=0|k=1|k=2");
        for (int i = 0; i < 4; i++) x.chief(i == 0 ? 0 : 3 + i, 0, i);
        for (int i = 0; i < 10; i++) x.worker(i % 4, 70, 40, i);
        for (int i = 0; i < 20; i++) x.book(i % 10, i % 4, 4);
        for (int i = 0; i < CALLS; i++) one(x, call, i);
    }

    /** A house at each seventh call: an image of none makes place for more than five. */
    private static void houses(ChiefGrades x, int i) {
        if (i == 0) x.image();
        else if (i % 8 == 7) x.undo();
        else if (i % 8 == 6) x.house();
        else x.feed("five 1".charAt(i % 8));
    }

    private static void one(ChiefGrades x, int call, int i) {
        switch (call) {
            case 0: x.asked(i % 4, 50); break;
            case 1: x.swap(1); break;
            case 2: x.years(20, i % 4, 0); break;
            case 3: x.best(i % 10, 0); break;
            case 4: x.looked(); break;
            case 5: x.of(i % 10, 8); break;
            case 6: x.chance(30, 15, 15, 7, 0); break;
            case 7: x.image(); break;
            case 8: x.undo(); break;
            case 9: x.act(i % 4, 2, i); break;
            case 10: x.nets(-1); break;
            case 11: x.wrong(0); break;
            case 12: houses(x, i); break;
            default: new ChiefGrades();
        }
    }
}
