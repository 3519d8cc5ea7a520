/** Promise 7. */
public final class RemoveTest {
    public static void main(String[] args) {
        Expect.holds("A node is gone, and all in it", "one with nothing in it", RemoveTest::nothingInIt);
        Expect.holds("A node is gone, and all in it", "directories in it", RemoveTest::directoriesInIt);
        Expect.holds("A node is gone, and all in it", "all 29", RemoveTest::allOfThem);
        Expect.holds("A node is gone, and all in it", "but nothing beside it", RemoveTest::nothingBesideIt);
        Expect.holds("nodes behind have lesser numbers then", "behind the first", RemoveTest::behindTheFirst);
        Expect.holds("nodes behind have lesser numbers then", "none behind the last", RemoveTest::behindTheLast);
        Expect.holds("nodes behind have lesser numbers then", "behind several that are gone", RemoveTest::behindSeveral);
        Expect.holds("nodes behind have lesser numbers then", "a new node is the next", RemoveTest::aNewNode);
        Expect.holds("nodes behind have lesser numbers then", "many times", RemoveTest::manyTimes);
        Expect.holds("Hard links of files that are gone are gone, too, wherever they are", RemoveTest::hardLinks);
        Expect.holds("Hard links of files that are gone are gone", "not the file of a link that is gone", RemoveTest::aHardLinkAlone);
        Expect.holds("Hard links of files that are gone are gone", "not symbolic links", RemoveTest::symbolicLinks);
        Expect.holds("How many are gone by all that", RemoveTest::howMany);
        Expect.holds("it is the root", RemoveTest::theRoot);
        Expect.holds("there is no such node", RemoveTest::noSuchNodes);
        Expect.holds("A node is gone", "the bytes at hand stay", RemoveTest::bytesStay);
        Expect.holds("A call that throws changes nothing", RemoveTest::nothingChanges);
        Expect.done();
    }

    private static void expectNames(Yard yard, String... names) {
        Expect.same("nodes", yard.total(0), 1 + names.length);
        for (int node = 1; node <= names.length; node++) {
            Expect.text("node " + node, yard.name(node), names[node - 1]);
        }
        Expect.refused(yard, "the node behind them", y -> y.node(1 + names.length, 0));
    }

    private static void nothingInIt() {
        for (int kind = 0; kind <= 3; kind++) {
            Yard yard = new Yard();
            yard.make(0, Yard.FILE, "stays");
            int gone = yard.make(0, kind, "gone", 1);
            Expect.same("kind " + kind, yard.remove(gone), 1);
            expectNames(yard, "stays");
            Expect.same("its name is free", yard.make(0, Yard.FILE, "gone"), 2);
        }
    }

    private static void directoriesInIt() {
        Yard yard = new Yard();
        int top = yard.make(0, Yard.DIRECTORY, "top");
        int sub = yard.make(top, Yard.DIRECTORY, "sub");
        yard.make(0, Yard.FILE, "stays");
        int deep = yard.make(sub, Yard.DIRECTORY, "deep");
        yard.make(deep, Yard.SYMBOLIC_LINK, "soft");
        yard.make(top, Yard.FILE, "file");
        Expect.same("gone", yard.remove(top), 5);
        expectNames(yard, "stays");
        Expect.same("the longest path", yard.total(2), 5);
    }

    private static void allOfThem() {
        Yard chain = new Yard();
        for (int in = 0; in < 29; in++) {
            chain.make(in, Yard.DIRECTORY, "d");
        }
        Expect.same("one in another", chain.remove(1), 29);
        expectNames(chain);
        Expect.same("the longest path", chain.total(2), 0);
        Yard links = new Yard();
        links.make(0, Yard.FILE, "f");
        for (int i = 2; i < 30; i++) {
            links.make(0, Yard.HARD_LINK, "l" + i, 1);
        }
        Expect.same("a file and its links", links.remove(1), 29);
        expectNames(links);
        for (int i = 1; i < 30; i++) {
            Expect.same("as many again", links.make(0, Yard.DIRECTORY, "n" + i), i);
        }
    }

    private static void nothingBesideIt() {
        Yard yard = new Yard();
        int one = yard.make(0, Yard.DIRECTORY, "one");
        int two = yard.make(0, Yard.DIRECTORY, "two");
        yard.make(one, Yard.FILE, "a");
        yard.make(two, Yard.FILE, "a");
        yard.make(one, Yard.DIRECTORY, "two");
        Expect.same("the directory in it alone", yard.remove(5), 1);
        Expect.same("gone", yard.remove(one), 2);
        expectNames(yard, "two", "a");
        Expect.same("lies in", yard.node(2, 1), 1);
    }

    /** A file gone 1, a directory dir 2, a file in it 3 and a hard link of that 4. */
    private static Yard four() {
        Yard yard = new Yard();
        yard.make(0, Yard.FILE, "gone");
        yard.make(0, Yard.DIRECTORY, "dir");
        yard.make(2, Yard.FILE, "file");
        yard.make(2, Yard.HARD_LINK, "hard", 3);
        yard.contents(1, 20, 1);
        yard.contents(3, 30, 2);
        yard.set(1, 7, 8, 9);
        yard.set(2, 4, 5, 6);
        yard.set(4, 1, 2, 3);
        return yard;
    }

    private static void behindTheFirst() {
        Yard yard = four();
        Expect.same("gone", yard.remove(1), 1);
        expectNames(yard, "dir", "file", "hard");
        int[][] due = {
            {0, 0, 3, 4, 5, 6, 0, -1},
            {1, 1, 4, 0, 0, 0, 30, -1},
            {3, 1, 4, 1, 2, 3, 0, 2}};
        for (int node = 1; node <= 3; node++) {
            for (int what = 0; what < 8; what++) {
                Expect.same("node(" + node + ", " + what + ")", yard.node(node, what), due[node - 1][what]);
            }
        }
        Expect.same("byte 29", yard.part(2, 1, 29), (2 + 31 * 29) % 256);
    }

    private static void behindTheLast() {
        Yard yard = four();
        Expect.same("gone", yard.remove(4), 1);
        expectNames(yard, "gone", "dir", "file");
        Expect.same("contents", yard.node(3, 6), 30);
        Expect.same("lies in", yard.node(3, 1), 2);
    }

    private static void behindSeveral() {
        Yard yard = new Yard();
        int dir = yard.make(0, Yard.DIRECTORY, "a");
        yard.make(0, Yard.FILE, "b");
        yard.make(dir, Yard.FILE, "c");
        int stays = yard.make(0, Yard.DIRECTORY, "d");
        yard.make(dir, Yard.FILE, "e");
        yard.make(stays, Yard.FILE, "f");
        yard.make(stays, Yard.HARD_LINK, "g", 6);
        yard.make(stays, Yard.HARD_LINK, "h", 2);
        Expect.same("gone", yard.remove(dir), 3);
        expectNames(yard, "b", "d", "f", "g", "h");
        Expect.same("f lies in", yard.node(3, 1), 2);
        Expect.same("g lies in", yard.node(4, 1), 2);
        Expect.same("file of g", yard.node(4, 7), 3);
        Expect.same("file of h", yard.node(5, 7), 1);
    }

    private static void aNewNode() {
        Yard yard = four();
        yard.remove(1);
        Expect.same("its number", yard.make(0, Yard.FILE, "new"), 4);
        for (int what = 3; what <= 6; what++) {
            Expect.same("it has nothing of an old one: " + what, yard.node(4, what), 0);
        }
        yard.fill(4, 0, 8);
        Expect.text("it is filled anew", yard.body(4), Yard.repeat('\0', 8));
        expectNames(yard, "dir", "file", "hard", "new");
        Expect.same("the link's mode", yard.node(3, 3), 1);
    }

    private static void manyTimes() {
        Yard yard = new Yard();
        for (int round = 0; round < 4; round++) {
            for (int i = yard.total(0); i < 30; i++) {
                yard.make(0, Yard.FILE, "n" + round + "x" + i);
                yard.contents(i, i, i);
            }
            for (int i = 1; i < 30 - round; i += 3) {
                yard.remove(Math.min(i, yard.total(0) - 1));
            }
            for (int i = 1; i < yard.total(0); i++) {
                Expect.same("contents go with the name", yard.part(i, 1, 0), yard.node(i, 6));
                String number = "x" + yard.node(i, 6);
                Expect.same("name that ends in " + number, yard.name(i).endsWith(number) ? 1 : 0, 1);
            }
        }
    }

    private static void hardLinks() {
        Yard yard = new Yard();
        int top = yard.make(0, Yard.DIRECTORY, "top");
        int stays = yard.make(0, Yard.FILE, "stays");
        int sub = yard.make(top, Yard.DIRECTORY, "sub");
        int file = yard.make(sub, Yard.FILE, "file");
        int far = yard.make(0, Yard.DIRECTORY, "far");
        yard.make(far, Yard.HARD_LINK, "one", file);
        yard.make(far, Yard.HARD_LINK, "two", stays);
        yard.make(sub, Yard.HARD_LINK, "three", stays);
        yard.make(sub, Yard.HARD_LINK, "four", file);
        yard.make(0, Yard.HARD_LINK, "five", file);
        Expect.same("gone", yard.remove(top), 7);
        expectNames(yard, "stays", "far", "two");
        Expect.same("directory of two", yard.node(3, 1), 2);
        Expect.same("file of two", yard.node(3, 7), 1);
        Expect.same("the file with its link elsewhere", yard.remove(1), 2);
        expectNames(yard, "far");
    }

    private static void aHardLinkAlone() {
        Yard yard = new Yard();
        int file = yard.make(0, Yard.FILE, "f");
        int dir = yard.make(0, Yard.DIRECTORY, "d");
        int one = yard.make(0, Yard.HARD_LINK, "one", file);
        yard.make(dir, Yard.HARD_LINK, "two", file);
        Expect.same("one", yard.remove(one), 1);
        expectNames(yard, "f", "d", "two");
        Expect.same("the file of the other", yard.node(3, 7), file);
        Expect.same("a directory with a link in it", yard.remove(dir), 2);
        expectNames(yard, "f");
    }

    private static void symbolicLinks() {
        Yard yard = new Yard();
        int file = yard.make(0, Yard.FILE, "f");
        int soft = yard.make(0, Yard.SYMBOLIC_LINK, "s");
        yard.fill(soft, "f");
        Expect.same("gone", yard.remove(file), 1);
        expectNames(yard, "s");
        Expect.text("its target", yard.body(1), "f");
    }

    private static void howMany() {
        for (int links = 0; links <= 5; links++) {
            Yard yard = new Yard();
            int dir = yard.make(0, Yard.DIRECTORY, "d");
            int file = yard.make(dir, Yard.FILE, "f");
            for (int i = 0; i < links; i++) {
                yard.make(i % 2 == 0 ? 0 : dir, Yard.HARD_LINK, "l" + i, file);
            }
            Expect.same("a directory, a file and links, " + links, yard.remove(dir), 2 + links);
            Expect.same("nodes", yard.total(0), 1);
        }
    }

    private static void theRoot() {
        Expect.refused(new Yard(), "alone", y -> y.remove(0));
        Expect.refused(four(), "with nodes in it", y -> y.remove(0));
    }

    private static void noSuchNodes() {
        Yard yard = four();
        for (int node : new int[] {-1, 5, 29, 30, Integer.MIN_VALUE, Integer.MAX_VALUE}) {
            Expect.refused(yard, "node " + node, y -> y.remove(node));
        }
        yard.remove(4);
        Expect.refused(yard, "one that is gone", y -> y.remove(4));
        Expect.refused(new Yard(), "the first of none", y -> y.remove(1));
    }

    private static void bytesStay() {
        Yard yard = four();
        yard.write();
        String before = yard.bytes(0, yard.total(1));
        yard.remove(2);
        Expect.text("bytes", yard.bytes(0, yard.total(1)), before);
    }

    private static void nothingChanges() {
        Yard yard = four();
        yard.write();
        yard.alter(0, 'x');
        yard.read();
        Expect.refused(yard, "the root", y -> y.remove(0));
        Expect.refused(yard, "node 5", y -> y.remove(5));
        Expect.same("then", yard.remove(3), 2);
    }
}
