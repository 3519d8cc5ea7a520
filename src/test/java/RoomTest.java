import com.sun.management.ThreadMXBean;
import java.lang.management.ManagementFactory;

/** All calls of one run live in one room, so rows are made once and used again. */
public final class RoomTest {
    private static final long MOST_BYTES = 1_000_000;
    private static final ThreadMXBean THREADS = (ThreadMXBean) ManagementFactory.getThreadMXBean();

    public static void main(String[] args) {
        run();
        long before = THREADS.getCurrentThreadAllocatedBytes();
        run();
        long made = THREADS.getCurrentThreadAllocatedBytes() - before;
        Expect.same("a run that makes " + made + " bytes is small", made <= MOST_BYTES ? 1 : 0, 1);
        Expect.done();
    }

    /** Fills two trees to the brim, then writes, reads, removes and makes as often as the document allows. */
    private static void run() {
        TarYard yard = new TarYard();
        int calls = fillUp(yard);
        yard.write();
        yard.read();
        calls += 2 + fillUp(yard);
        while (calls < 512 - 8) {
            yard.write();
            yard.read();
            yard.remove(1);
            int file = yard.make(0, 1, '4' + calls / 7, 1, 0);
            yard.contents(file, 2000, 5);
            yard.rename(file, 'x', 1);
            yard.size(10240);
            calls += 7;
        }
    }

    private static int fillUp(TarYard yard) {
        int calls = 0;
        while (yard.total(0) < 30) {
            int file = yard.make(0, 1, '0' + yard.total(0), 1, 0);
            yard.contents(file, 2000, 5);
            calls += 2;
        }
        while (yard.total(0) > 4) {
            yard.remove(4);
            calls++;
        }
        return calls;
    }
}
