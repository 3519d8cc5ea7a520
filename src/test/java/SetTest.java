/** Promise 6. */
public final class SetTest {
    public static void main(String[] args) {
        TarYard yard = new TarYard();
        int file = Yards.make(yard, 0, Yards.FILE, "f");
        Yards.make(yard, 0, Yards.DIRECTORY, "d");
        Yards.make(yard, 0, Yards.SYMBOLIC_LINK, "s");
        Yards.make(yard, 0, Yards.HARD_LINK, "h", file);
        for (int node = 0; node < 5; node++) {
            yard.set(node, 4095 - node, 2097151 - node, Integer.MAX_VALUE - node);
        }
        for (int node = 0; node < 5; node++) {
            Expect.same("mode", yard.node(node, 3), 4095 - node);
            Expect.same("owner", yard.node(node, 4), 2097151 - node);
            Expect.same("time", yard.node(node, 5), Integer.MAX_VALUE - node);
        }
        yard.set(file, 0, 0, 0);
        yard.set(file, 1, 2, 3);
        wrongArguments(yard, file);
        Expect.same("mode stays", yard.node(file, 3), 1);
        Expect.same("owner stays", yard.node(file, 4), 2);
        Expect.same("time stays", yard.node(file, 5), 3);
        theRootIsNotWritten();
        Expect.done();
    }

    private static void wrongArguments(TarYard yard, int file) {
        for (int node : new int[] {-1, 5, 30, Integer.MIN_VALUE, Integer.MAX_VALUE}) {
            Expect.refused("node " + node, () -> yard.set(node, 7, 7, 7));
        }
        for (int mode : new int[] {-1, 4096, Integer.MIN_VALUE, Integer.MAX_VALUE}) {
            Expect.refused("mode " + mode, () -> yard.set(file, mode, 7, 7));
        }
        for (int owner : new int[] {-1, 2097152, Integer.MIN_VALUE, Integer.MAX_VALUE}) {
            Expect.refused("owner " + owner, () -> yard.set(file, 7, owner, 7));
        }
        for (int time : new int[] {-1, Integer.MIN_VALUE}) {
            Expect.refused("time " + time, () -> yard.set(file, 7, 7, time));
        }
    }

    private static void theRootIsNotWritten() {
        TarYard yard = new TarYard();
        yard.set(0, 1, 2, 3);
        Expect.same("blocks", yard.write(), 2);
        for (int i = 0; i < 1024; i++) {
            Expect.same("hand(" + i + ")", yard.hand(i), 0);
        }
        Expect.same("writing leaves the root's mode", yard.node(0, 3), 1);
        yard.read();
        Expect.same("a tree that is read has a root of its own", yard.node(0, 3), 0);
        yard.set(0, 4, 5, 6);
        yard.read();
        for (int what = 3; what <= 5; what++) {
            Expect.same("and so has the next one", yard.node(0, what), 0);
        }
    }
}
