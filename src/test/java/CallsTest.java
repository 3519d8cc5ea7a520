import java.util.function.ToIntFunction;

/** The 512 calls of one object. */
public final class CallsTest {
    public static void main(String[] args) {
        Expect.holds("An object is used for at most 512 calls", "the last of each kind", CallsTest::lastCalls);
        Expect.holds("An object is used for at most 512 calls", "the last throws as any other", CallsTest::lastRefusals);
        Expect.holds("An object is used for at most 512 calls", "the dearest of them", CallsTest::dearCalls);
        Expect.done();
    }

    /** A full archive of a file 1, a symbolic link 2 and a directory 3, and 511 calls in all. */
    private static TarYard nearTheEnd() {
        TarYard yard = new TarYard();
        yard.make(0, Yard.FILE, 'f', 1, 0);
        yard.make(0, Yard.SYMBOLIC_LINK, 's', 1, 0);
        yard.make(0, Yard.DIRECTORY, 'd', 1, 0);
        yard.contents(1, 2000, 7);
        yard.write();
        for (int call = 5; call < Yard.MOST_CALLS - 1; call++) {
            yard.set(1, call, call, call);
        }
        return yard;
    }

    private static void expectLast(String call, int due, ToIntFunction<TarYard> last) {
        Expect.same("the last call " + call, last.applyAsInt(nearTheEnd()), due);
    }

    private static void lastCalls() {
        expectLast("make", 4, y -> y.make(3, Yard.HARD_LINK, 'h', 1, 1));
        expectLast("rename", 2, y -> y.rename(1, 'g', 1));
        expectLast("fill", 1, y -> y.fill(2, 'g', 1));
        expectLast("remove", 1, y -> y.remove(3));
        expectLast("write", 9, TarYard::write);
        expectLast("read", 4, TarYard::read);
        expectLast("place", TarYard.NONE, TarYard::place);
        expectLast("alter", 'd', y -> y.alter(0, 'x'));
        expectLast("check", 256, y -> y.check(8));
        expectLast("hand", 'd', y -> y.hand(0));
        expectLast("node", 510, y -> y.node(1, 5));
        expectLast("part", 7, y -> y.part(1, 1, 0));
        expectLast("total", 2, y -> y.total(2));
        nearTheEnd().contents(1, 2000, 255);
        nearTheEnd().set(1, 4095, 2097151, Integer.MAX_VALUE);
        nearTheEnd().size(10240);
    }

    private static int refusal(ToIntFunction<TarYard> last) {
        try {
            return last.applyAsInt(nearTheEnd());
        } catch (IllegalArgumentException e) {
            return -2;
        } catch (IllegalStateException e) {
            return -3;
        }
    }

    private static void lastRefusals() {
        Expect.same("make", refusal(y -> y.make(0, Yard.FILE, 'f', 1, 0)), -2);
        Expect.same("fill", refusal(y -> y.fill(1, 0, 1)), -3);
        Expect.same("node", refusal(y -> y.node(4, 0)), -2);
        Expect.same("hand", refusal(y -> y.hand(10240)), -1);
    }

    /** Each write and read of a full tree again, 512 calls in all. */
    private static void dearCalls() {
        TarYard yard = new TarYard();
        for (int i = 0; i < 4; i++) {
            yard.make(0, Yard.FILE, 'a' + i, 1, 0);
            yard.contents(i + 1, i == 3 ? 1024 : 2000, i);
        }
        for (int call = 8; call < Yard.MOST_CALLS; call += 2) {
            Expect.same("write, call " + call, yard.write(), 20);
            Expect.same("read, call " + call, yard.read(), 5);
        }
    }
}
