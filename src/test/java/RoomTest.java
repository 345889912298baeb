import com.sun.management.ThreadMXBean;
import java.lang.management.ManagementFactory;

/** All calls of a run live in one room of some 600,000 objects: the dearest run of one object must be far from it. */
public final class RoomTest {
    /** An object takes 16 bytes at least. */
    private static final long MOST_BYTES = 600_000L * 16;
    private static final Checks checks = new Checks("RoomTest");

    public static void main(String[] args) {
        if (!(ManagementFactory.getThreadMXBean() instanceof ThreadMXBean bean) || !bean.isThreadAllocatedMemorySupported()) {
            System.out.println("RoomTest: this machine does not count what is made");
            return;
        }
        bean.setThreadAllocatedMemoryEnabled(true);
        long self = Thread.currentThread().getId();
        for (int last = 0; last <= 2; last++) {
            long before = bean.getThreadAllocatedBytes(self);
            JudgesLists x = dearest();
            callOften(x, last);
            long made = bean.getThreadAllocatedBytes(self) - before;
            checks.holds("a run of 512 calls of kind " + last + " made " + made + " bytes", made < MOST_BYTES);
        }
        checks.end();
    }

    /** 20 THINGS and 500 rows of DEPTHS, made by 50 calls. */
    private static JudgesLists dearest() {
        JudgesLists x = new JudgesLists();
        int[] lengths = {4, 19, 4};
        for (int thing = 0; thing < 20; thing++) {
            x.thing();
        }
        for (int list = 0; list < 3; list++) {
            x.list(1, 1, 1);
            for (int thing = 0; thing < lengths[list]; thing++) {
                x.mark(list, thing, thing + 1);
            }
        }
        return x;
    }

    private static void callOften(JudgesLists x, int kind) {
        for (int calls = 50; calls + 2 <= 512; calls += 2) {
            switch (kind) {
                case 0 -> checks.due("least(10)", x.least(10), x.least(10));
                case 1 -> checks.due("best(19)", x.best(19), x.best(19));
                default -> checks.holds("begin, finish", x.begin(1, 10, 0) == 0 && x.finish() > 0);
            }
        }
    }
}
