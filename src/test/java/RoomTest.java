import com.sun.management.ThreadMXBean;
import java.lang.management.ManagementFactory;

/** All calls of one run live in one room, so rows are made once and used again. */
public final class RoomTest {
    private static final long MOST_BYTES = 1_000_000;
    private static final ThreadMXBean THREADS = (ThreadMXBean) ManagementFactory.getThreadMXBean();

    public static void main(String[] args) {
        Expect.holds("An object is used for at most 512 calls", "what they make", RoomTest::whatARunMakes);
        Expect.done();
    }

    private static void whatARunMakes() {
        run();
        long before = THREADS.getCurrentThreadAllocatedBytes();
        int calls = run();
        long made = THREADS.getCurrentThreadAllocatedBytes() - before;
        Expect.same("a run that makes " + made + " bytes is small", made <= MOST_BYTES ? 1 : 0, 1);
        Expect.same("a run of " + calls + " calls is a full one", calls > 500 && calls <= 512 ? 1 : 0, 1);
    }

    /** Fills two trees to the brim, then writes, reads, removes and makes as often as the document allows. */
    private static int run() {
        TarYard yard = new TarYard();
        int calls = fillUp(yard, 1);
        yard.write();
        yard.read();
        calls += 2 + fillUp(yard, 4);
        while (calls < 512 - 7) {
            yard.write();
            yard.read();
            yard.remove(1);
            int file = yard.make(0, 1, '4' + calls / 7, 1, 0);
            yard.contents(file, 2000, 5);
            yard.rename(file, 'x', 1);
            yard.size(10240);
            calls += 7;
        }
        return calls;
    }

    /** From so many nodes to 30, and down to 4 again. */
    private static int fillUp(TarYard yard, int nodes) {
        int calls = 0;
        for (int i = nodes; i < 30; i++) {
            int file = yard.make(0, 1, '0' + i, 1, 0);
            yard.contents(file, 2000, 5);
            calls += 2;
        }
        for (int i = 30; i > 4; i--) {
            yard.remove(4);
            calls++;
        }
        return calls;
    }
}
