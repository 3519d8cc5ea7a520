/** Promise 1. */
public final class NewObjectTest {
    public static void main(String[] args) {
        TarYard yard = new TarYard();
        Expect.same("total(0)", yard.total(0), 1);
        Expect.same("total(1)", yard.total(1), 0);
        Expect.same("total(2)", yard.total(2), 0);
        Expect.same("hand(0)", yard.hand(0), TarYard.NONE);
        Expect.same("place()", yard.place(), TarYard.NONE);
        int[] root = {0, TarYard.NONE, 0, 0, 0, 0, 0, TarYard.NONE};
        for (int what = 0; what < root.length; what++) {
            Expect.same("node(0, " + what + ")", yard.node(0, what), root[what]);
        }
        Expect.same("NONE", TarYard.NONE, -1);
        twoObjectsShareNothing();
        Expect.done();
    }

    private static void twoObjectsShareNothing() {
        TarYard one = new TarYard();
        TarYard other = new TarYard();
        Yards.make(one, 0, Yards.FILE, "f");
        one.write();
        Expect.same("nodes of the other", other.total(0), 1);
        Expect.same("bytes of the other", other.total(1), 0);
    }
}
