/** Promise 16. */
public final class PartTest {
    private static final int[] NUMBERS = {-1, Integer.MIN_VALUE, Integer.MAX_VALUE};

    public static void main(String[] args) {
        Expect.holds("Character or byte i of a node's name (what = 0)", PartTest::names);
        Expect.holds("contents or target (1)", PartTest::bodies);
        Expect.holds("NONE if there is none", "before and behind a name", PartTest::outsideOfNames);
        Expect.holds("NONE if there is none", "before and behind contents or a target", PartTest::outsideOfBodies);
        Expect.holds("NONE if there is none", "of the root, directories and hard links", PartTest::noneOfOthers);
        Expect.holds("there is no such node", PartTest::noSuchNodes);
        Expect.holds("or what is none of these", PartTest::noSuchParts);
        Expect.holds("A call that throws changes nothing", PartTest::nothingChanges);
        Expect.done();
    }

    private static Yard ofEachKind() {
        Yard yard = new Yard();
        yard.make(0, Yard.DIRECTORY, "dir");
        yard.make(1, Yard.FILE, Yard.repeat('f', 99) + "~");
        yard.make(1, Yard.SYMBOLIC_LINK, "!");
        yard.make(0, Yard.HARD_LINK, "hardlink", 2);
        yard.contents(2, 2000, 255);
        yard.fill(3, "/" + Yard.repeat('t', 98) + "~");
        return yard;
    }

    private static void names() {
        Yard yard = ofEachKind();
        Expect.same("first of dir", yard.part(1, 0, 0), 'd');
        Expect.same("last of dir", yard.part(1, 0, 2), 'r');
        Expect.same("first of a hundred", yard.part(2, 0, 0), 'f');
        Expect.same("last of a hundred", yard.part(2, 0, 99), '~');
        Expect.same("a link's", yard.part(3, 0, 0), '!');
        Expect.text("a hard link's", yard.name(4), "hardlink");
    }

    private static void bodies() {
        Yard yard = ofEachKind();
        Expect.same("byte 0", yard.part(2, 1, 0), 255);
        Expect.same("byte 1", yard.part(2, 1, 1), 30);
        Expect.same("byte 1999", yard.part(2, 1, 1999), 16);
        Expect.same("character 0", yard.part(3, 1, 0), '/');
        Expect.same("character 99", yard.part(3, 1, 99), '~');
    }

    private static void expectNone(Yard yard, int node, int what, int length) {
        Expect.same("before the first", yard.part(node, what, -1), Yard.NONE);
        Expect.same("behind the last", yard.part(node, what, length), Yard.NONE);
        Expect.same("far behind", yard.part(node, what, Integer.MAX_VALUE), Yard.NONE);
        Expect.same("far before", yard.part(node, what, Integer.MIN_VALUE), Yard.NONE);
    }

    private static void outsideOfNames() {
        int[] lengths = {0, 3, 100, 1, 8};
        for (int node = 0; node < lengths.length; node++) {
            expectNone(ofEachKind(), node, 0, lengths[node]);
        }
    }

    private static void outsideOfBodies() {
        Yard yard = ofEachKind();
        expectNone(yard, 2, 1, 2000);
        expectNone(yard, 3, 1, 100);
        yard.contents(2, 5, 5);
        Expect.same("the last", yard.part(2, 1, 4), (5 + 31 * 4) % 256);
        expectNone(yard, 2, 1, 5);
        yard.contents(2, 0, 5);
        expectNone(yard, 2, 1, 0);
    }

    private static void noneOfOthers() {
        for (int node : new int[] {0, 1, 4}) {
            expectNone(ofEachKind(), node, 1, 0);
        }
        expectNone(new Yard(), 0, 0, 0);
    }

    private static void noSuchNodes() {
        Yard yard = ofEachKind();
        for (int what = 0; what <= 1; what++) {
            int ask = what;
            Expect.refused(yard, "node 5", y -> y.part(5, ask, 0));
            Expect.refused(yard, "node 30", y -> y.part(30, ask, 0));
            for (int node : NUMBERS) {
                Expect.refused(yard, "node " + node, y -> y.part(node, ask, 0));
            }
        }
        yard.remove(4);
        Expect.refused(yard, "one that is gone", y -> y.part(4, 0, 0));
    }

    private static void noSuchParts() {
        Yard yard = ofEachKind();
        for (int node = 0; node <= 4; node++) {
            int asked = node;
            Expect.refused(yard, "what 2 of " + node, y -> y.part(asked, 2, 0));
            for (int what : NUMBERS) {
                Expect.refused(yard, "what " + what + " of " + node, y -> y.part(asked, what, -1));
            }
        }
    }

    private static void nothingChanges() {
        Yard yard = ofEachKind();
        yard.remove(4);
        yard.write();
        yard.alter(0, 'x');
        yard.read();
        Expect.refused(yard, "node", y -> y.part(4, 0, 0));
        Expect.refused(yard, "what", y -> y.part(0, 2, 0));
    }
}
