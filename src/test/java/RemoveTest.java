/** Promise 7. */
public final class RemoveTest {
    public static void main(String[] args) {
        numbersMoveUp();
        directoriesAndTheirHardLinks();
        aHardLinkAlone();
        manyTimes();
        wrongNodes();
        Expect.done();
    }

    private static void numbersMoveUp() {
        TarYard yard = new TarYard();
        int gone = Yards.make(yard, 0, Yards.FILE, "gone");
        int dir = Yards.make(yard, 0, Yards.DIRECTORY, "dir");
        int file = Yards.make(yard, dir, Yards.FILE, "file");
        int hard = Yards.make(yard, dir, Yards.HARD_LINK, "hard", file);
        yard.contents(gone, 20, 1);
        yard.contents(file, 30, 2);
        yard.set(gone, 4, 5, 6);
        yard.set(hard, 1, 2, 3);
        Expect.same("one", yard.remove(gone), 1);
        Expect.same("nodes", yard.total(0), 4);
        Yards.expectText("directory", Yards.name(yard, 1), "dir");
        Yards.expectText("file", Yards.name(yard, 2), "file");
        Expect.same("lies in", yard.node(2, 1), 1);
        Expect.same("contents", yard.node(2, 6), 30);
        Expect.same("byte 29", yard.part(2, 1, 29), (2 + 31 * 29) % 256);
        Expect.same("link lies in", yard.node(3, 1), 1);
        Expect.same("link's file", yard.node(3, 7), 2);
        Expect.same("link's time", yard.node(3, 5), 3);
        Expect.same("a new one", Yards.make(yard, 0, Yards.FILE, "gone"), 4);
        for (int what = 3; what <= 6; what++) {
            Expect.same("a new one has nothing of an old one: " + what, yard.node(4, what), 0);
        }
        yard.fill(4, 0, 8);
        Expect.same("filled anew", yard.part(4, 1, 5), 0);
        String[] names = {"", "dir", "file", "hard", "gone"};
        for (int node = 1; node < names.length; node++) {
            Yards.expectText("each node is one of its own: " + node, Yards.name(yard, node), names[node]);
        }
        Expect.same("the link's mode", yard.node(3, 3), 1);
    }

    private static void directoriesAndTheirHardLinks() {
        TarYard yard = new TarYard();
        int top = Yards.make(yard, 0, Yards.DIRECTORY, "top");
        int stays = Yards.make(yard, 0, Yards.FILE, "stays");
        int sub = Yards.make(yard, top, Yards.DIRECTORY, "sub");
        int file = Yards.make(yard, sub, Yards.FILE, "file");
        int far = Yards.make(yard, 0, Yards.DIRECTORY, "far");
        Yards.make(yard, far, Yards.HARD_LINK, "one", file);
        Yards.make(yard, far, Yards.HARD_LINK, "two", stays);
        Yards.make(yard, sub, Yards.HARD_LINK, "three", stays);
        Yards.make(yard, sub, Yards.HARD_LINK, "four", file);
        Yards.make(yard, far, Yards.SYMBOLIC_LINK, "five");
        Expect.same("gone", yard.remove(top), 6);
        Expect.same("nodes", yard.total(0), 5);
        String[] names = {"", "stays", "far", "two", "five"};
        for (int node = 1; node < names.length; node++) {
            Yards.expectText("node " + node, Yards.name(yard, node), names[node]);
        }
        Expect.same("directory of two", yard.node(3, 1), 2);
        Expect.same("file of two", yard.node(3, 7), 1);
        Expect.same("directory of five", yard.node(4, 1), 2);
        Expect.same("a file with its link", yard.remove(1), 2);
        Expect.same("an empty directory or not", yard.remove(1), 2);
        Expect.same("the root alone", yard.total(0), 1);
    }

    private static void manyTimes() {
        TarYard yard = new TarYard();
        for (int round = 0; round < 5; round++) {
            for (int i = yard.total(0); i < 30; i++) {
                Yards.make(yard, 0, Yards.FILE, "n" + round + "x" + i);
                yard.contents(i, i, i);
            }
            for (int i = 1; i < 30 - round; i += 3) {
                yard.remove(Math.min(i, yard.total(0) - 1));
            }
            for (int i = 1; i < yard.total(0); i++) {
                Expect.same("contents go with the name", yard.part(i, 1, 0), yard.node(i, 6));
                String number = String.valueOf(yard.node(i, 6));
                Expect.same("name of " + number, Yards.name(yard, i).endsWith("x" + number) ? 1 : 0, 1);
            }
        }
    }

    private static void aHardLinkAlone() {
        TarYard yard = new TarYard();
        int file = Yards.make(yard, 0, Yards.FILE, "f");
        int one = Yards.make(yard, 0, Yards.HARD_LINK, "one", file);
        Yards.make(yard, 0, Yards.HARD_LINK, "two", file);
        Expect.same("one", yard.remove(one), 1);
        Expect.same("nodes", yard.total(0), 3);
        Yards.expectText("the other", Yards.name(yard, 2), "two");
        Expect.same("its file", yard.node(2, 7), file);
    }

    private static void wrongNodes() {
        TarYard yard = new TarYard();
        Yards.make(yard, 0, Yards.FILE, "f");
        for (int node : new int[] {0, 2, -1, 30, Integer.MIN_VALUE, Integer.MAX_VALUE}) {
            Expect.refused("node " + node, () -> yard.remove(node));
        }
        Expect.same("nodes", yard.total(0), 2);
    }
}
