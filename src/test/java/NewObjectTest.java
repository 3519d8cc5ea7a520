/** Promise 1, and that an object is its own. */
public final class NewObjectTest {
    public static void main(String[] args) {
        Expect.holds("The root alone", NewObjectTest::theRootAlone);
        Expect.holds("0 is the root, a directory without a name", NewObjectTest::theRoot);
        Expect.holds("no bytes at hand", NewObjectTest::noBytes);
        Expect.holds("public static final int NONE = -1", () -> Expect.same("NONE", TarYard.NONE, -1));
        Expect.holds("A new object", "beside another one", NewObjectTest::twoObjectsShareNothing);
        Expect.done();
    }

    private static void theRootAlone() {
        Yard yard = new Yard();
        Expect.same("nodes", yard.total(0), 1);
        Expect.same("the longest path", yard.total(2), 0);
        Expect.refused(yard, "node 1", y -> y.node(1, 0));
        Expect.same("the first node that is made", yard.make(0, Yard.FILE, "f"), 1);
    }

    private static void theRoot() {
        Yard yard = new Yard();
        int[] root = {Yard.DIRECTORY, Yard.NONE, 0, 0, 0, 0, 0, Yard.NONE};
        for (int what = 0; what < root.length; what++) {
            Expect.same("node(0, " + what + ")", yard.node(0, what), root[what]);
        }
        Expect.same("a character of its name", yard.part(0, 0, 0), Yard.NONE);
        Expect.same("a byte of its contents", yard.part(0, 1, 0), Yard.NONE);
    }

    private static void noBytes() {
        Yard yard = new Yard();
        Expect.same("bytes", yard.total(1), 0);
        Expect.same("hand(0)", yard.hand(0), Yard.NONE);
        Expect.refused(yard, "alter(0, 0)", y -> y.alter(0, 0));
        Expect.refused(yard, "check(0)", y -> y.check(0));
        Expect.same("read()", yard.read(), -1);
    }

    private static void twoObjectsShareNothing() {
        TarYard one = new TarYard();
        TarYard other = new TarYard();
        one.make(0, Yard.FILE, 'f', 1, 0);
        one.set(0, 1, 1, 1);
        one.write();
        one.alter(0, 'x');
        one.read();
        Expect.same("nodes of the other", other.total(0), 1);
        Expect.same("bytes of the other", other.total(1), 0);
        Expect.same("place of the other", other.place(), TarYard.NONE);
        Expect.same("mode of the other's root", other.node(0, 3), 0);
    }
}
