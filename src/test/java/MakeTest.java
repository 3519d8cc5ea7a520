/** Promise 2. */
public final class MakeTest {
    public static void main(String[] args) {
        numbersAndNames();
        hardLinks();
        wrongNames();
        wrongNumbers();
        full();
        aRefusedCallChangesNothing();
        Expect.done();
    }

    private static void numbersAndNames() {
        TarYard yard = new TarYard();
        Expect.same("first", yard.make(0, 0, 0x4142434445464748L, 8, 99), 1);
        Yards.expectText("lowest byte first", Yards.name(yard, 1), "HGFEDCBA");
        Expect.same("second", yard.make(1, 1, 0x4142L, 1, -5), 2);
        Yards.expectText("bytes behind n are not looked at", Yards.name(yard, 2), "B");
        Expect.same("in another directory", yard.make(0, 2, 'B', 1, 0), 3);
        Expect.same("directory it lies in", yard.node(2, 1), 1);
        Expect.same("kind", yard.node(3, 0), 2);
        for (int what = 3; what <= 6; what++) {
            Expect.same("0 at first: " + what, yard.node(2, what), 0);
        }
        Expect.same("of is not looked at", yard.node(2, 7), TarYard.NONE);
        Expect.same("lowest character", yard.make(0, 1, 33, 1, 0), 4);
        Expect.same("highest character", yard.make(0, 1, 126, 1, 0), 5);
        Expect.same("three dots", Yards.make(yard, 0, 1, "..."), 6);
        Expect.same("dot and more", Yards.make(yard, 0, 1, ".a"), 7);
        Expect.same("dots and more", Yards.make(yard, 0, 1, "..a"), 8);
        Expect.same("begins like another", Yards.make(yard, 0, 1, ".ab"), 9);
    }

    private static void hardLinks() {
        TarYard yard = new TarYard();
        int dir = Yards.make(yard, 0, Yards.DIRECTORY, "d");
        int file = Yards.make(yard, dir, Yards.FILE, "f");
        int soft = Yards.make(yard, 0, Yards.SYMBOLIC_LINK, "s");
        int hard = Yards.make(yard, 0, Yards.HARD_LINK, "h", file);
        Expect.same("file of the link", yard.node(hard, 7), file);
        for (int of : new int[] {0, dir, soft, hard, 5, 29, 30, -1, Integer.MIN_VALUE, Integer.MAX_VALUE}) {
            Expect.refused("hard link of " + of, () -> yard.make(0, 3, 'x', 1, of));
        }
        for (int in : new int[] {file, soft, hard, 5, -1, Integer.MIN_VALUE, Integer.MAX_VALUE}) {
            Expect.refused("in " + in, () -> yard.make(in, 1, 'x', 1, 0));
        }
        Expect.same("another of the same file", Yards.make(yard, dir, Yards.HARD_LINK, "h", file), 5);
    }

    private static void wrongNames() {
        TarYard yard = new TarYard();
        Yards.make(yard, 0, Yards.FILE, "ab");
        for (String name : new String[] {"ab", ".", "..", "/", "a/b", " ", "a ", "\u007f", "\u0000", "a\u0000", "\u0080", "\u00ff", "a\u00a0b"}) {
            Expect.refused("name " + name, () -> yard.make(0, 1, Yards.word(name), name.length(), 0));
            Expect.refused("directory " + name, () -> yard.make(0, 0, Yards.word(name), name.length(), 0));
        }
    }

    private static void wrongNumbers() {
        TarYard yard = new TarYard();
        long eight = Yards.word("abcdefgh");
        for (int n : new int[] {0, -1, 9, 108, Integer.MIN_VALUE, Integer.MAX_VALUE}) {
            Expect.refused("n " + n, () -> yard.make(0, 1, eight, n, 0));
        }
        for (int kind : new int[] {-1, 4, 48, Integer.MIN_VALUE, Integer.MAX_VALUE}) {
            Expect.refused("kind " + kind, () -> yard.make(0, kind, eight, 8, 0));
        }
    }

    private static void full() {
        TarYard yard = new TarYard();
        for (int i = 1; i < 30; i++) {
            Expect.same("node " + i, yard.make(i - 1, 0, 'd', 1, 0), i);
        }
        Expect.full("node 30", () -> yard.make(29, 1, 'x', 1, 0));
        Expect.refused("a wrong name comes first", () -> yard.make(29, 1, '/', 1, 0));
        Expect.refused("a wrong directory comes first", () -> yard.make(30, 1, 'x', 1, 0));
        Expect.refused("no file comes first", () -> yard.make(29, 3, 'x', 1, 1));
        Expect.refused("a name that is there comes first", () -> yard.make(28, 1, 'd', 1, 1));
        Expect.same("nodes", yard.total(0), 30);
        yard.remove(29);
        Expect.same("there is room again", yard.make(0, 1, 'x', 1, 0), 29);
    }

    private static void aRefusedCallChangesNothing() {
        TarYard yard = new TarYard();
        int file = Yards.make(yard, 0, Yards.FILE, "f");
        yard.write();
        String before = Yards.state(yard);
        Expect.refused("twice", () -> yard.make(0, 1, 'f', 1, 0));
        Expect.refused("in a file", () -> yard.make(file, 1, 'g', 1, 0));
        Yards.expectText("state", Yards.state(yard), before);
    }
}
