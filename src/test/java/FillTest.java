/** Promise 4. */
public final class FillTest {
    public static void main(String[] args) {
        files();
        links();
        wrongArguments();
        oneBehindTheOther();
        Expect.done();
    }

    private static void files() {
        TarYard yard = new TarYard();
        int file = Yards.make(yard, 0, Yards.FILE, "f");
        Expect.same("nothing", yard.fill(file, -1, 0), 0);
        Expect.same("eight", yard.fill(file, 0xff00010203040506L, 8), 8);
        Expect.same("two", yard.fill(file, 0x0102L, 2), 10);
        Yards.expectText("bytes", Yards.text(yard, file, 1), "\u0006\u0005\u0004\u0003\u0002\u0001\u0000\u00ff\u0002\u0001");
        yard.contents(file, 1995, 3);
        Expect.full("2001", () -> yard.fill(file, 0, 6));
        Expect.same("2000", yard.fill(file, 7, 5), 2000);
        Expect.same("byte 1995", yard.part(file, 1, 1995), 7);
        Expect.same("byte 1999", yard.part(file, 1, 1999), 0);
        Expect.full("2001 again", () -> yard.fill(file, 0, 1));
        Expect.same("nothing more", yard.fill(file, 0, 0), 2000);
        Expect.refused("n comes first", () -> yard.fill(file, 0, 9));
        yard.contents(file, 3, 3);
        Expect.same("behind shorter contents", yard.fill(file, 0, 4), 7);
        Expect.same("byte 3", yard.part(file, 1, 3), 0);
    }

    private static void links() {
        TarYard yard = new TarYard();
        int link = Yards.make(yard, 0, Yards.SYMBOLIC_LINK, "s");
        Expect.same("slashes and dots", yard.fill(link, Yards.word("/../a//!"), 8), 8);
        Expect.same("126", yard.fill(link, 126, 1), 9);
        for (int letter : new int[] {0, 32, 127, 128, 255}) {
            Expect.refused("letter " + letter, () -> yard.fill(link, letter, 1));
            Expect.refused("letter behind " + letter, () -> yard.fill(link, letter * 256L + 'x', 2));
        }
        Expect.same("none of them", yard.fill(link, 0, 0), 9);
        Yards.target(yard, link, Yards.repeat('y', 90));
        Expect.full("101", () -> yard.fill(link, Yards.word("xy"), 2));
        Expect.refused("a wrong character comes first", () -> yard.fill(link, Yards.word("x "), 2));
        Expect.same("100", yard.fill(link, 'z', 1), 100);
        Expect.full("101 again", () -> yard.fill(link, 'z', 1));
        Yards.expectText("target", Yards.text(yard, link, 1), "/../a//!~" + Yards.repeat('y', 90) + "z");
    }

    private static void oneBehindTheOther() {
        TarYard yard = new TarYard();
        int file = Yards.make(yard, 0, Yards.FILE, "f");
        int link = Yards.make(yard, 0, Yards.SYMBOLIC_LINK, "s");
        Expect.refused("a blank is no name", () -> yard.make(0, 1, ' ', 1, 0));
        Expect.same("a refused name is not a target's", yard.fill(link, 'x', 1), 1);
        yard.fill(file, 0, 8);
        Expect.same("a file's bytes are not a link's", yard.fill(link, Yards.word("ab"), 2), 3);
        Expect.same("nothing behind a file's bytes", yard.fill(file, 0, 1) - yard.fill(link, 0, 0), 6);
    }

    private static void wrongArguments() {
        TarYard yard = new TarYard();
        int file = Yards.make(yard, 0, Yards.FILE, "f");
        int dir = Yards.make(yard, 0, Yards.DIRECTORY, "d");
        int hard = Yards.make(yard, 0, Yards.HARD_LINK, "h", file);
        for (int node : new int[] {0, dir, hard, 4, -1, Integer.MIN_VALUE, Integer.MAX_VALUE}) {
            Expect.refused("node " + node, () -> yard.fill(node, 'x', 1));
            Expect.refused("nothing to node " + node, () -> yard.fill(node, 'x', 0));
        }
        for (int n : new int[] {-1, 9, Integer.MIN_VALUE, Integer.MAX_VALUE}) {
            Expect.refused("n " + n, () -> yard.fill(file, 'x', n));
        }
        Expect.same("length", yard.node(file, 6), 0);
    }
}
