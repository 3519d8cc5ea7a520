/** Promise 9: the tree that the bytes tell. */
public final class ReadTest {
    public static void main(String[] args) {
        Expect.holds("the tree becomes what they tell", "all that a node has", ReadTest::allThatANodeHas);
        Expect.holds("the tree becomes what they tell", "what is least", ReadTest::least);
        Expect.holds("the tree becomes what they tell", "what is most", ReadTest::most);
        Expect.holds("the tree becomes what they tell", "in place of a larger one", ReadTest::inPlaceOfALargerOne);
        Expect.holds("the tree becomes what they tell", "in place of a smaller one", ReadTest::inPlaceOfASmallerOne);
        Expect.holds("the tree becomes what they tell", "and can be changed then", ReadTest::canBeChanged);
        Expect.holds("the tree becomes what they tell", "written and read again", ReadTest::againAndAgain);
        Expect.holds("the tree becomes what they tell", "the bytes are altered then", ReadTest::theTreeIsApart);
        Expect.holds("nodes in the order of entries", "as they were written", ReadTest::orderOfWriting);
        Expect.holds("nodes in the order of entries", "in another order", ReadTest::anotherOrder);
        Expect.holds("nodes in the order of entries", "hard links before others", ReadTest::hardLinksBeforeOthers);
        Expect.holds("how many with the root", ReadTest::howMany);
        Expect.holds("or the FAULT, below 0; the tree stays then", ReadTest::theTreeStays);
        Expect.holds("or the FAULT, below 0; the tree stays then", "behind good entries", ReadTest::behindGoodEntries);
        Expect.holds("A block of zeros ends it, if the next is one too", ReadTest::theEnd);
        Expect.holds("what comes behind is not looked at", ReadTest::behindTheEnd);
        Expect.holds("the path (with both parts and 47 between, if there is a first one)", ReadTest::twoParts);
        Expect.done();
    }

    private static void expectNode(Yard yard, int node, String name, int... due) {
        Expect.text("name of " + node, yard.name(node), name);
        for (int what = 0; what < due.length; what++) {
            Expect.same("node(" + node + ", " + what + ")", yard.node(node, what), due[what]);
        }
    }

    private static Yard withFiles(int count) {
        Yard yard = new Yard();
        for (int i = 0; i < count; i++) {
            yard.make(0, Yard.FILE, 'a' + i, 1, 0);
        }
        return yard;
    }

    private static void allThatANodeHas() {
        Yard yard = new Yard();
        int file = yard.make(0, Yard.FILE, "z");
        int dir = yard.make(0, Yard.DIRECTORY, "dir");
        int soft = yard.make(dir, Yard.SYMBOLIC_LINK, "soft");
        int hard = yard.make(dir, Yard.HARD_LINK, "hard", file);
        yard.contents(file, 700, 100);
        yard.fill(soft, "../z");
        yard.set(file, 1, 2, 3);
        yard.set(dir, 4, 5, 6);
        yard.set(soft, 7, 8, 9);
        yard.set(hard, 10, 11, 12);
        yard.write();
        yard.remove(dir);
        Archive.expectNodes(yard, "read", 5);
        expectNode(yard, 1, "dir", 0, 0, 3, 4, 5, 6, 0, -1);
        expectNode(yard, 2, "soft", 2, 1, 4, 7, 8, 9, 4, -1);
        expectNode(yard, 3, "z", 1, 0, 1, 1, 2, 3, 700, -1);
        expectNode(yard, 4, "hard", 3, 1, 4, 10, 11, 12, 0, 3);
        Expect.text("target", yard.body(2), "../z");
        for (int i = 0; i < 700; i++) {
            Expect.same("byte " + i, yard.part(3, 1, i), (100 + 31 * i) % 256);
        }
    }

    private static void least() {
        Yard yard = new Yard();
        yard.make(0, Yard.FILE, "f");
        yard.make(0, Yard.SYMBOLIC_LINK, "s");
        yard.make(0, Yard.DIRECTORY, "d");
        yard.write();
        yard.remove(1);
        Archive.expectNodes(yard, "read", 4);
        expectNode(yard, 1, "d", 0, 0, 1, 0, 0, 0, 0, -1);
        expectNode(yard, 2, "f", 1, 0, 1, 0, 0, 0, 0, -1);
        expectNode(yard, 3, "s", 2, 0, 1, 0, 0, 0, 0, -1);
    }

    private static void most() {
        Yard yard = new Yard();
        String a = Yard.repeat('a', 90);
        String b = Yard.repeat('b', 64);
        String c = Yard.repeat('~', 100);
        yard.make(0, Yard.DIRECTORY, a);
        yard.make(1, Yard.DIRECTORY, b);
        yard.make(2, Yard.FILE, c);
        yard.make(2, Yard.SYMBOLIC_LINK, c.substring(1));
        yard.contents(3, 2000, 255);
        yard.fill(4, c);
        yard.set(3, 4095, 2097151, Integer.MAX_VALUE);
        yard.set(4, 4095, 2097151, Integer.MAX_VALUE);
        yard.write();
        yard.remove(1);
        Archive.expectNodes(yard, "read", 5);
        expectNode(yard, 1, a, 0, 0, 90, 0, 0, 0, 0, -1);
        expectNode(yard, 2, b, 0, 1, 64, 0, 0, 0, 0, -1);
        expectNode(yard, 3, c.substring(1), 2, 2, 99, 4095, 2097151, Integer.MAX_VALUE, 100, -1);
        expectNode(yard, 4, c, 1, 2, 100, 4095, 2097151, Integer.MAX_VALUE, 2000, -1);
        Expect.text("target", yard.body(3), c);
        Expect.same("the last byte", yard.part(4, 1, 1999), 16);
    }

    private static void inPlaceOfALargerOne() {
        Yard yard = withFiles(1);
        yard.write();
        for (int i = 2; i < 30; i++) {
            yard.make(0, Yard.FILE, "n" + i);
            yard.contents(i, 100 + i, i);
        }
        Archive.expectNodes(yard, "read", 2);
        Expect.refused(yard, "node 2", y -> y.node(2, 0));
        Expect.same("the longest path", yard.total(2), 1);
        Expect.same("a name of the other tree is free", yard.make(0, Yard.FILE, "n2"), 2);
        Expect.same("it has no contents", yard.node(2, 6), 0);
    }

    private static void inPlaceOfASmallerOne() {
        Yard yard = withFiles(18);
        yard.write();
        yard.contents(3, 50, 1);
        for (int i = 18; i > 3; i--) {
            yard.remove(i);
        }
        Archive.expectNodes(yard, "read", 19);
        expectNode(yard, 18, "r", 1, 0, 1, 0, 0, 0, 0, -1);
        expectNode(yard, 3, "c", 1, 0, 1, 0, 0, 0, 0, -1);
    }

    private static void canBeChanged() {
        Archive archive = new Archive();
        Yard yard = archive.yard;
        yard.read();
        Expect.same("a hard link of a file that was read", yard.make(1, Yard.HARD_LINK, "h", 2), 3);
        Expect.refused(yard, "a name that was read", y -> y.make(1, Yard.FILE, 'f', 1, 0));
        Expect.same("more contents", yard.fill(2, 'x', 1), 4);
        Expect.text("contents", yard.body(2), "\u0009\u0028\u0047x");
        Expect.same("a longer name", yard.rename(1, 'e', 1), 2);
        Expect.same("all gone", yard.remove(1), 3);
    }

    private static void againAndAgain() {
        Yard yard = new Yard();
        int file = yard.make(0, Yard.FILE, "z");
        int dir = yard.make(0, Yard.DIRECTORY, Yard.repeat('d', 80));
        yard.make(dir, Yard.SYMBOLIC_LINK, Yard.repeat('s', 60));
        yard.make(dir, Yard.HARD_LINK, "h", file);
        yard.contents(file, 600, 3);
        yard.write();
        yard.read();
        String once = yard.state();
        yard.write();
        yard.read();
        Expect.text("once more", yard.state(), once);
        yard.read();
        Expect.text("only read once more", yard.state(), once);
    }

    private static void theTreeIsApart() {
        Archive archive = new Archive();
        archive.yard.read();
        String tree = archive.yard.tree();
        archive.yard.alter(Archive.HEADER, 'x');
        archive.yard.alter(Archive.CONTENTS, 'x');
        archive.yard.size(0);
        Expect.text("the tree", archive.yard.tree(), tree);
    }

    private static void orderOfWriting() {
        Yard yard = new Yard();
        int file = yard.make(0, Yard.FILE, "z");
        yard.make(0, Yard.HARD_LINK, "a", file);
        int dir = yard.make(0, Yard.DIRECTORY, "d");
        yard.make(dir, Yard.FILE, "y");
        yard.make(dir, Yard.FILE, "x");
        yard.write();
        Expect.same("nodes", yard.read(), 6);
        String[] names = {"d", "x", "y", "z", "a"};
        for (int i = 0; i < names.length; i++) {
            Expect.text("node " + (i + 1), yard.name(i + 1), names[i]);
        }
        Expect.same("file of the link", yard.node(5, 7), 4);
    }

    private static void anotherOrder() {
        Yard yard = withFiles(3);
        yard.make(0, Yard.DIRECTORY, "d");
        yard.make(4, Yard.FILE, "e");
        yard.write();
        yard.alter(0, 'z');
        yard.check(0);
        yard.alter(4 * 512, "y\0\0");
        yard.check(4);
        yard.alter(512, "B");
        yard.check(1);
        Archive.expectNodes(yard, "read", 6);
        String[] names = {"z", "B", "c", "d", "y"};
        for (int i = 0; i < names.length; i++) {
            Expect.text("node " + (i + 1), yard.name(i + 1), names[i]);
        }
        Expect.same("kind of d", yard.node(4, 0), Yard.DIRECTORY);
    }

    private static void hardLinksBeforeOthers() {
        Yard yard = withFiles(2);
        yard.make(0, Yard.SYMBOLIC_LINK, "c");
        yard.write();
        yard.alter(512 + 156, 49);
        yard.alter(512 + 157, 'a');
        yard.check(1);
        Archive.expectNodes(yard, "read", 4);
        expectNode(yard, 2, "b", 3, 0, 1, 0, 0, 0, 0, 1);
        expectNode(yard, 3, "c", 2, 0, 1, 0, 0, 0, 0, -1);
    }

    private static void howMany() {
        for (int files : new int[] {0, 1, 2, 17, 18}) {
            Yard yard = withFiles(files);
            yard.write();
            Archive.expectNodes(yard, "files " + files, files + 1);
        }
    }

    private static void theTreeStays() {
        Archive archive = new Archive();
        archive.yard.alter(Archive.HEADER, 0);
        archive.expectFault("a fault", 3);
        expectNode(archive.yard, 1, "other", 1, 0, 5, 0, 0, 0, 5, -1);
        expectNode(archive.yard, 0, "", 0, -1, 0, 4, 5, 6, 0, -1);
        Expect.same("nodes", archive.yard.total(0), 2);
    }

    private static void behindGoodEntries() {
        Yard yard = withFiles(18);
        yard.write();
        yard.remove(1);
        yard.contents(1, 9, 9);
        yard.alter(17 * 512, 'a');
        yard.check(17);
        Archive.expectFault(yard, "the name of the first", 7, 17);
        yard.alter(17 * 512, 'A');
        yard.check(17);
        Archive.expectNodes(yard, "another one", 19);
    }

    private static void theEnd() {
        Yard none = new Yard();
        none.make(0, Yard.FILE, "f");
        none.size(1024);
        Archive.expectNodes(none, "at once", 1);
        Yard few = withFiles(2);
        few.write();
        few.make(0, Yard.FILE, "z");
        Archive.expectNodes(few, "behind two entries", 3);
        Yard contents = withFiles(1);
        for (int i = 0; i < 128; i++) {
            contents.fill(1, 0, 8);
        }
        contents.write();
        Archive.expectNodes(contents, "not in contents", 2);
        Expect.same("which are of zeros", contents.node(1, 6), 1024);
    }

    private static void behindTheEnd() {
        for (int size : new int[] {2561, 3071, 3072, 3073, 10240}) {
            Archive archive = new Archive().cutTo(size);
            archive.yard.alter(2560, 7);
            archive.yard.alter(size - 1, 7);
            archive.expectBoth("of " + size + " bytes");
        }
        Archive archive = new Archive().cutTo(3072);
        archive.yard.alter(2560, archive.yard.bytes(512, 512));
        archive.expectBoth("an entry that is there already");
    }

    private static void twoParts() {
        Archive archive = new Archive().with(0, "f\0\0").with(345, "d");
        archive.expectBoth("a short path in two parts");
        expectNode(archive.yard, 2, "f", 1, 1, 1, 1, 2, 3, 3, -1);
        Archive only = new Archive().withDirectory(0, "\0\0").withDirectory(345, "d");
        only.expectBoth("a directory with a first part alone");
        expectNode(only.yard, 1, "d", 0, 0, 1, 0, 0, 0, 0, -1);
    }
}
