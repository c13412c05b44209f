import com.sun.management.ThreadMXBean;
import java.lang.management.ManagementFactory;

/** All calls of a run live in one room, so the good ones make no object and no array. */
public final class RoomTest {
    private static final int CALLS = 500;

    /** What the measuring itself may make; a row of a few lanes a call would be far more. */
    private static final long SLACK = 4000;

    public static void main(String[] args) {
        Checks checks = new Checks();
        measured(checks, "clear", (x, i) -> x.clear(i % 8));
        measured(checks, "take", (x, i) -> x.take(i % 8, i, 8));
        measured(checks, "fill", (x, i) -> x.fill(i % 8, i, i, 2000));
        measured(checks, "copy", (x, i) -> x.copy(i % 8, i / 8 % 8));
        measured(checks, "mix", (x, i) -> x.mix(i % 8));
        measured(checks, "lane", (x, i) -> x.lane(i % 8, i % 25));
        measured(checks, "digest", (x, i) -> x.digest(i % 8, i % 4));
        checks.end();
    }

    private static void measured(Checks checks, String what, Checks.NumberedCall call) {
        KeccakLanes x = new KeccakLanes();
        ThreadMXBean threads = (ThreadMXBean) ManagementFactory.getThreadMXBean();
        long id = Thread.currentThread().getId();
        threads.getThreadAllocatedBytes(id);
        long before = threads.getThreadAllocatedBytes(id);
        for (int i = 0; i < CALLS; i++) {
            call.on(x, i);
        }
        long made = threads.getThreadAllocatedBytes(id) - before;
        checks.isTrue(what + ": " + CALLS + " calls made " + made + " bytes of objects", made <= SLACK);
    }
}
