/** Promise 15. */
public final class NodeTest {
    private static final int[] NUMBERS = {-1, Integer.MIN_VALUE, Integer.MAX_VALUE};

    public static void main(String[] args) {
        Expect.holds("its kind (what = 0)", () -> expect(0, 0, 0, 1, 2, 3));
        Expect.holds("the directory it lies in (1; NONE for the root)", () -> expect(1, Yard.NONE, 0, 1, 1, 0));
        Expect.holds("how long its name is (2)", () -> expect(2, 0, 3, 4, 1, 100));
        Expect.holds("mode (3)", () -> expect(3, 4095, 1, 4, 7, 10));
        Expect.holds("owner (4)", () -> expect(4, 2097151, 2, 5, 8, 11));
        Expect.holds("time (5)", () -> expect(5, Integer.MAX_VALUE, 3, 6, 9, 12));
        Expect.holds("how long its contents or target are (6; 0 for others)", () -> expect(6, 0, 0, 2000, 100, 0));
        Expect.holds("a hard link's file (7; NONE for others)", () -> expect(7, Yard.NONE, Yard.NONE, Yard.NONE, Yard.NONE, 2));
        Expect.holds("6; 0 for others", "without contents or target", NodeTest::withoutContents);
        Expect.holds("there is no such node", NodeTest::noSuchNodes);
        Expect.holds("there is no such node", "the last of 30", NodeTest::theLastOfThirty);
        Expect.holds("or a number is not as it may be", NodeTest::noSuchNumbers);
        Expect.holds("A call that throws changes nothing", NodeTest::nothingChanges);
        Expect.done();
    }

    /** A directory 1, a file 2 and a symbolic link 3 in it, a hard link 4 of the file. */
    private static Yard ofEachKind() {
        Yard yard = new Yard();
        yard.make(0, Yard.DIRECTORY, "dir");
        yard.make(1, Yard.FILE, "file");
        yard.make(1, Yard.SYMBOLIC_LINK, "s");
        yard.make(0, Yard.HARD_LINK, Yard.repeat('h', 100), 2);
        yard.contents(2, 2000, 0);
        yard.fill(3, Yard.repeat('t', 100));
        yard.set(0, 4095, 2097151, Integer.MAX_VALUE);
        for (int node = 1; node <= 4; node++) {
            yard.set(node, 3 * node - 2, 3 * node - 1, 3 * node);
        }
        return yard;
    }

    private static void expect(int what, int... due) {
        Yard yard = ofEachKind();
        for (int node = 0; node < due.length; node++) {
            Expect.same("node(" + node + ", " + what + ")", yard.node(node, what), due[node]);
        }
    }

    private static void withoutContents() {
        Yard yard = new Yard();
        yard.make(0, Yard.FILE, "f");
        yard.make(0, Yard.SYMBOLIC_LINK, "s");
        Expect.same("a file", yard.node(1, 6), 0);
        Expect.same("a symbolic link", yard.node(2, 6), 0);
    }

    private static void noSuchNodes() {
        Yard yard = ofEachKind();
        for (int what = 0; what < 8; what++) {
            int ask = what;
            Expect.refused(yard, "node 5, " + what, y -> y.node(5, ask));
            for (int node : NUMBERS) {
                Expect.refused(yard, "node " + node + ", " + what, y -> y.node(node, ask));
            }
        }
        yard.remove(4);
        Expect.refused(yard, "one that is gone", y -> y.node(4, 0));
    }

    private static void theLastOfThirty() {
        Yard yard = new Yard();
        for (int i = 1; i < 30; i++) {
            Expect.refused(yard, "not yet " + i, y -> y.node(y.total(0), 0));
            yard.make(0, Yard.FILE, "n" + i);
            Expect.same("kind", yard.node(i, 0), Yard.FILE);
        }
        Expect.refused(yard, "node 30", y -> y.node(30, 0));
        Expect.refused(yard, "node 31", y -> y.node(31, 0));
    }

    private static void noSuchNumbers() {
        Yard yard = ofEachKind();
        for (int node = 0; node <= 4; node++) {
            int asked = node;
            Expect.refused(yard, "what 8 of " + node, y -> y.node(asked, 8));
            for (int what : NUMBERS) {
                Expect.refused(yard, "what " + what + " of " + node, y -> y.node(asked, what));
            }
        }
    }

    private static void nothingChanges() {
        Yard yard = ofEachKind();
        yard.remove(4);
        yard.write();
        yard.alter(0, 'x');
        yard.read();
        Expect.refused(yard, "node", y -> y.node(4, 0));
        Expect.refused(yard, "what", y -> y.node(0, 8));
    }
}
