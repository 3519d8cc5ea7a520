/** Promise 8 and WRITING: which entries, in which order, in how many blocks. */
public final class WriteTest {
    public static void main(String[] args) {
        Expect.holds("ENTRIES of all nodes but the root", "the root alone", WriteTest::theRootAlone);
        Expect.holds("ENTRIES of all nodes but the root", "as many as there is room for", WriteTest::eighteenEntries);
        Expect.holds("ENTRIES of all nodes but the root", "not of what is gone", WriteTest::whatIsGone);
        Expect.holds("by the first character that is another one", "the first of a name", WriteTest::firstCharacter);
        Expect.holds("by the first character that is another one", "the last of 100", WriteTest::lastCharacter);
        Expect.holds("by the first character that is another one", "not the ones behind it", WriteTest::charactersBehind);
        Expect.holds("a name that another one begins with is before that", WriteTest::beginnings);
        Expect.holds("those of a directory right behind it", WriteTest::rightBehindIt);
        Expect.holds("those of a directory right behind it", "whatever their names are", WriteTest::namesNotPaths);
        Expect.holds("those of a directory right behind it", "one in another", WriteTest::oneInAnother);
        Expect.holds("but hard links behind all others, in the order in which they would have come", WriteTest::hardLinks);
        Expect.holds("Then two blocks of zeros", WriteTest::twoBlocksOfZeros);
        Expect.holds("in as many blocks as they need, with zeros behind", WriteTest::contentsInBlocks);
        Expect.holds("in as many blocks as they need", "none of links and directories", WriteTest::noContents);
        Expect.holds("in place of the bytes at hand", "of more", WriteTest::inPlaceOfMore);
        Expect.holds("in place of the bytes at hand", "of fewer", WriteTest::inPlaceOfFewer);
        Expect.holds("how many blocks", WriteTest::howMany);
        Expect.holds("there would be more than 20 blocks", "20", WriteTest::twentyBlocks);
        Expect.holds("there would be more than 20 blocks", "21 by an entry", WriteTest::oneEntryMore);
        Expect.holds("there would be more than 20 blocks", "21 by a byte", WriteTest::oneByteMore);
        Expect.holds("there would be more than 20 blocks", "the most that a tree can need", WriteTest::theLargestTree);
        Expect.holds("a hard link's file has a path longer than 100", "100", WriteTest::linkOfHundred);
        Expect.holds("a hard link's file has a path longer than 100", "101", WriteTest::linkOfHundredAndOne);
        Expect.holds("A call that throws changes nothing", WriteTest::nothingChanges);
        Expect.holds("The tree is WRITTEN", "and stays", WriteTest::theTreeStays);
        Expect.done();
    }

    private static void expectEntries(Yard yard, String... paths) {
        int blocks = yard.write();
        Expect.same("blocks", blocks, paths.length + 2);
        for (int i = 0; i < paths.length; i++) {
            Expect.text("entry " + i, yard.textAt(512 * i, 100), paths[i]);
        }
        Expect.text("the end", yard.bytes(512 * paths.length, 1024), Yard.repeat('\0', 1024));
        Expect.same("bytes", yard.total(1), 512 * blocks);
    }

    private static Yard withFiles(String... names) {
        Yard yard = new Yard();
        for (String name : names) {
            yard.make(0, Yard.FILE, name);
        }
        return yard;
    }

    /** Files of the root, one block each. */
    private static Yard withEntries(int count) {
        Yard yard = new Yard();
        for (int i = 0; i < count; i++) {
            yard.make(0, Yard.FILE, 'a' + i, 1, 0);
        }
        return yard;
    }

    private static void theRootAlone() {
        expectEntries(new Yard());
    }

    private static void eighteenEntries() {
        expectEntries(withEntries(18), "a", "b", "c", "d", "e", "f", "g", "h", "i", "j", "k", "l", "m", "n", "o", "p", "q", "r");
    }

    private static void whatIsGone() {
        Yard yard = new Yard();
        int dir = yard.make(0, Yard.DIRECTORY, "b");
        int file = yard.make(0, Yard.FILE, "a");
        yard.make(dir, Yard.FILE, "c");
        yard.make(0, Yard.HARD_LINK, "d", file);
        yard.remove(file);
        expectEntries(yard, "b/", "b/c");
        yard.remove(2);
        expectEntries(yard, "b/");
        yard.remove(1);
        expectEntries(yard);
    }

    private static void firstCharacter() {
        expectEntries(withFiles("~", "a", "Z", "!", "A", "z", "0", "_", "b"), "!", "0", "A", "Z", "_", "a", "b", "z", "~");
    }

    private static void lastCharacter() {
        String most = Yard.repeat('x', 99);
        expectEntries(withFiles(most + "c", most + "~", most + "b"), most + "b", most + "c", most + "~");
    }

    private static void charactersBehind() {
        expectEntries(withFiles("b!", "a~", "aaz", "aba", "ab!~", "ab~!"), "aaz", "ab!~", "aba", "ab~!", "a~", "b!");
    }

    private static void beginnings() {
        String hundred = Yard.repeat('a', 100);
        expectEntries(withFiles("ab", "a!", hundred, "a", "aaaaaaaa", "aa"), "a", "a!", "aa", "aaaaaaaa", hundred, "ab");
    }

    private static void rightBehindIt() {
        Yard yard = new Yard();
        int two = yard.make(0, Yard.DIRECTORY, "two");
        int one = yard.make(0, Yard.DIRECTORY, "one");
        yard.make(0, Yard.FILE, "p");
        yard.make(two, Yard.FILE, "b");
        yard.make(one, Yard.FILE, "z");
        yard.make(two, Yard.FILE, "a");
        yard.make(one, Yard.SYMBOLIC_LINK, "y");
        yard.make(0, Yard.DIRECTORY, "empty");
        expectEntries(yard, "empty/", "one/", "one/y", "one/z", "p", "two/", "two/a", "two/b");
    }

    /** A name is compared, not its path: 45 and 46 are below 47, but a directory's nodes come right behind it. */
    private static void namesNotPaths() {
        Yard yard = new Yard();
        yard.make(0, Yard.FILE, "a-");
        yard.make(0, Yard.FILE, "a.");
        yard.make(0, Yard.FILE, "a0");
        int dir = yard.make(0, Yard.DIRECTORY, "a");
        yard.make(dir, Yard.FILE, "~");
        yard.make(dir, Yard.FILE, "!");
        expectEntries(yard, "a/", "a/!", "a/~", "a-", "a.", "a0");
    }

    private static void oneInAnother() {
        Yard yard = new Yard();
        int in = 0;
        StringBuilder path = new StringBuilder();
        String[] due = new String[18];
        for (int i = 0; i < 17; i++) {
            in = yard.make(in, Yard.DIRECTORY, "d");
            due[i] = path.append("d/").toString();
        }
        yard.make(0, Yard.FILE, "e");
        due[17] = "e";
        expectEntries(yard, due);
    }

    private static void hardLinks() {
        Yard yard = new Yard();
        int file = yard.make(0, Yard.FILE, "z");
        yard.make(0, Yard.HARD_LINK, "y", file);
        int dir = yard.make(0, Yard.DIRECTORY, "a");
        yard.make(0, Yard.FILE, "a-b");
        yard.make(dir, Yard.HARD_LINK, "q", file);
        yard.make(dir, Yard.SYMBOLIC_LINK, "p");
        int deep = yard.make(dir, Yard.DIRECTORY, "m");
        yard.make(deep, Yard.FILE, "k");
        yard.make(deep, Yard.HARD_LINK, "j", file);
        yard.make(0, Yard.HARD_LINK, "!", file);
        yard.make(dir, Yard.HARD_LINK, "m-", file);
        yard.make(0, Yard.FILE, "~");
        expectEntries(yard, "a/", "a/m/", "a/m/k", "a/p", "a-b", "z", "~", "!", "a/m/j", "a/m-", "a/q", "y");
    }

    private static void twoBlocksOfZeros() {
        for (int length : new int[] {0, 1, 512, 2000}) {
            Yard yard = withEntries(1);
            yard.contents(1, length, 255);
            int blocks = yard.write();
            Expect.text("behind contents of " + length, yard.bytes(512 * (blocks - 2), 1024), Yard.repeat('\0', 1024));
            Expect.same("and nothing more", yard.hand(512 * blocks), Yard.NONE);
        }
    }

    private static void contentsInBlocks() {
        int[] lengths = {0, 1, 511, 512, 513, 1023, 1024, 1025, 1536, 1537, 1999, 2000};
        int[] blocks = {0, 1, 1, 1, 2, 2, 2, 3, 3, 4, 4, 4};
        for (int k = 0; k < lengths.length; k++) {
            Yard yard = withEntries(2);
            yard.contents(1, lengths[k], 200);
            Expect.same("blocks of " + lengths[k], yard.write(), 4 + blocks[k]);
            for (int i = 0; i < blocks[k] * 512; i++) {
                Expect.same("byte " + i, yard.hand(512 + i), i < lengths[k] ? (200 + 31 * i) % 256 : 0);
            }
            Expect.text("the next entry", yard.textAt(512 + blocks[k] * 512, 100), "b");
        }
    }

    private static void noContents() {
        Yard yard = new Yard();
        int file = yard.make(0, Yard.FILE, "f");
        yard.contents(file, 513, 1);
        int soft = yard.make(0, Yard.SYMBOLIC_LINK, "s");
        yard.fill(soft, Yard.repeat('t', 100));
        yard.make(0, Yard.DIRECTORY, "d");
        yard.make(0, Yard.HARD_LINK, "h", file);
        Expect.same("blocks", yard.write(), 1 + 3 + 1 + 1 + 2);
        Expect.text("the symbolic link", yard.textAt(4 * 512, 100), "s");
        Expect.text("the hard link", yard.textAt(5 * 512, 100), "h");
    }

    private static void inPlaceOfMore() {
        Yard yard = withEntries(2);
        yard.contents(1, 2000, 3);
        yard.contents(2, 2000, 4);
        yard.write();
        yard.size(10240);
        yard.alter(10239, 1);
        yard.contents(1, 5, 3);
        yard.remove(2);
        Expect.same("blocks", yard.write(), 4);
        Expect.same("bytes", yard.total(1), 2048);
        Expect.text("behind the contents", yard.bytes(517, 2048 - 517), Yard.repeat('\0', 2048 - 517));
        Expect.same("behind the end", yard.hand(2048), Yard.NONE);
        yard.size(10240);
        Expect.same("what was there is not kept", yard.hand(10239), 0);
        Expect.same("nor before", yard.hand(2048), 0);
    }

    private static void inPlaceOfFewer() {
        Yard yard = withEntries(1);
        yard.size(3);
        yard.alter(2, 255);
        Expect.same("blocks", yard.write(), 3);
        Expect.same("bytes", yard.total(1), 1536);
        Expect.same("byte 2", yard.hand(2), 0);
    }

    private static void howMany() {
        for (int entries = 0; entries <= 18; entries++) {
            Expect.same("of " + entries, withEntries(entries).write(), entries + 2);
        }
    }

    private static void twentyBlocks() {
        Yard entries = withEntries(18);
        Expect.same("18 entries", entries.write(), 20);
        Expect.same("bytes", entries.total(1), 10240);
        Yard contents = withEntries(4);
        contents.contents(1, 2000, 1);
        contents.contents(2, 2000, 2);
        contents.contents(3, 2000, 3);
        contents.contents(4, 1024, 4);
        Expect.same("4 entries with contents", contents.write(), 20);
        Expect.same("the last byte", contents.hand(18 * 512 - 1), (4 + 31 * 1023) % 256);
    }

    private static void oneEntryMore() {
        Yard yard = withEntries(19);
        Expect.unsupported(yard, "19 entries", Yard::write);
        yard.remove(7);
        Expect.same("18 of them", yard.write(), 20);
        yard.make(0, Yard.DIRECTORY, "!");
        Expect.unsupported(yard, "a directory more", Yard::write);
        yard.remove(19);
        yard.make(0, Yard.HARD_LINK, "!", 1);
        Expect.unsupported(yard, "a hard link more", Yard::write);
    }

    private static void oneByteMore() {
        Yard yard = withEntries(17);
        yard.contents(4, 512, 1);
        Expect.same("a whole block", yard.write(), 20);
        yard.fill(4, 1, 1);
        Expect.unsupported(yard, "a byte more", Yard::write);
        Yard empty = withEntries(18);
        empty.fill(18, 1, 1);
        Expect.unsupported(empty, "a byte in the last file", Yard::write);
    }

    private static void theLargestTree() {
        Yard yard = withEntries(29);
        for (int file = 1; file < 30; file++) {
            yard.contents(file, 2000, file);
        }
        Expect.unsupported(yard, "29 files of 2000 bytes", Yard::write);
    }

    /** A file whose path has so many characters, in a directory that has 91 of them, and a hard link of it. */
    private static Yard withLink(int length) {
        Yard yard = new Yard();
        int dir = yard.make(0, Yard.DIRECTORY, Yard.repeat('a', 90));
        int file = yard.make(dir, Yard.FILE, Yard.repeat('b', length - 91));
        yard.make(0, Yard.HARD_LINK, "h", file);
        return yard;
    }

    private static void linkOfHundred() {
        for (int length : new int[] {99, 100}) {
            Yard yard = withLink(length);
            Expect.same("blocks", yard.write(), 5);
            Expect.text("target", yard.textAt(1024 + 157, 100), Yard.repeat('a', 90) + "/" + Yard.repeat('b', length - 91));
        }
    }

    private static void linkOfHundredAndOne() {
        Yard yard = withLink(101);
        Expect.unsupported(yard, "101", Yard::write);
        Expect.unsupported(withLink(150), "150", Yard::write);
        yard.remove(3);
        Expect.same("without the link its path is cut", yard.write(), 4);
        Yard twice = withLink(100);
        twice.make(0, Yard.HARD_LINK, "i", 2);
        twice.rename(2, 'b', 1);
        Expect.unsupported(twice, "one character more", Yard::write);
    }

    private static void nothingChanges() {
        Yard yard = withLink(100);
        yard.contents(2, 600, 1);
        yard.set(0, 1, 2, 3);
        yard.write();
        yard.alter(512, 'x');
        yard.read();
        yard.rename(2, 'b', 1);
        Expect.unsupported(yard, "a hard link's file", Yard::write);
        Yard path = new Yard();
        path.make(0, Yard.DIRECTORY, Yard.repeat('a', 99));
        path.write();
        path.rename(1, 'a', 1);
        Expect.unsupported(path, "a path", Yard::write);
        Yard blocks = withEntries(18);
        blocks.write();
        blocks.make(0, Yard.FILE, "z");
        Expect.unsupported(blocks, "too many blocks", Yard::write);
        Yard nothing = withEntries(19);
        nothing.size(77);
        Expect.unsupported(nothing, "what was at hand stays", Yard::write);
    }

    private static void theTreeStays() {
        Yard yard = withLink(100);
        yard.contents(2, 600, 1);
        yard.set(0, 1, 2, 3);
        yard.make(0, Yard.SYMBOLIC_LINK, "!");
        yard.fill(4, "t");
        String before = yard.tree();
        yard.write();
        Expect.text("the tree", yard.tree(), before);
        String bytes = yard.bytes(0, yard.total(1));
        yard.write();
        Expect.text("the same bytes again", yard.bytes(0, yard.total(1)), bytes);
    }
}
