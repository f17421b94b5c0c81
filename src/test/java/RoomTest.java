import com.sun.management.ThreadMXBean;
import java.lang.management.ManagementFactory;

/** All calls of a run live in one room: a machine is small, and its calls make no objects. */
public final class RoomTest {
    private static final ThreadMXBean THREADS = (ThreadMXBean) ManagementFactory.getThreadMXBean();
    private static final int CALLS = 400;

    public static void main(String[] args) {
        Check.same("bytes of a machine are at most 40,000", bytesOfMachine() <= 40_000, true);
        Check.same("steps of a long run make objects", bytesOfSteps() > 0, false);
        Check.finish();
    }

    private static long taken() {
        return THREADS.getThreadAllocatedBytes(Thread.currentThread().getId());
    }

    private static long bytesOfMachine() {
        new TrimmedMachine();
        long before = taken();
        new TrimmedMachine();
        return taken() - before;
    }

    /** The least of some tries, as the virtual machine may now and then take a little itself. */
    private static long bytesOfSteps() {
        long least = Long.MAX_VALUE;
        for (int round = 0; round < 5; round++) {
            TrimmedMachine machine = new TrimmedMachine();
            machine.begin(endless(machine), 120);
            long before = taken();
            long steps = 0;
            for (int i = 0; i < CALLS; i++) {
                steps += machine.steps(500);
            }
            least = Math.min(least, taken() - before);
            Check.same("steps of a run that doesn't end", steps, CALLS * 500L);
        }
        return least;
    }

    /** A loop that makes a closure and waits in frames at each round, and never ends. */
    private static int endless(TrimmedMachine machine) {
        int x = machine.variable(0);
        int self = machine.variable(1);
        int inside = machine.call(machine.function(-1, 2, x), machine.number(1));
        int next = machine.operation(0, x, inside);
        return machine.call(machine.function(1, 0, machine.call(self, next)), machine.number(1));
    }
}
