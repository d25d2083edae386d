import com.sun.management.ThreadMXBean;
import java.lang.management.ManagementFactory;

/** All calls of a run live in one room, so calls must not make new rows each time. */
public final class RoomTest {
    private static final Checks CHECKS = new Checks();

    public static void main(String[] args) {
        ThreadMXBean meter = (ThreadMXBean) ManagementFactory.getThreadMXBean();
        long id = Thread.currentThread().getId();
        dearRun(new LookBench());
        long before = meter.getThreadAllocatedBytes(id);
        LookBench x = new LookBench();
        long made = meter.getThreadAllocatedBytes(id);
        dearRun(x);
        long used = meter.getThreadAllocatedBytes(id);
        CHECKS.at("the room");
        System.out.println("an object takes " + (made - before) + " bytes, its calls " + (used - made));
        CHECKS.due("a new object stays under 16 KiB", made - before < 16 * 1024, true);
        // One table of 19683 longs and one of 19683 ints, and less than half of that again for lesser counts of parts.
        CHECKS.due("all its calls stay under 400 KiB", used - made < 400 * 1024, true);
        CHECKS.end();
    }

    private static void dearRun(LookBench x) {
        for (int n = 1; n <= 9; n++) {
            x.parts(n);
            x.system(x.some((1 << n) - 1, 0, 0, (n + 1) / 2));
            x.told(2);
        }
        for (int i = 0; i < 480; i += 12) {
            x.part(i % 9, 1 + i % 9, 9 - i % 9, i);
            x.dual(0);
            x.ratios(i % 2 == 0, false);
            for (int what = 1; what <= 8; what++) {
                x.told(what);
            }
            x.run(0, i);
        }
    }
}
