/** Promise 9: what is read back, and each fault with its edges. */
public final class ReadTest {
    private static final int HEADER = 512;

    public static void main(String[] args) {
        backAndForth();
        theTreeStays();
        faults1And2();
        fault3();
        fault4();
        fault5();
        fault6();
        fault7();
        partsOfAPath();
        fault8();
        faults9To11();
        faultsInOrder();
        freeOrder();
        behindTheEnd();
        allBlocksTaken();
        Expect.done();
    }

    /** A directory d in block 0, a file d/f of 3 bytes in blocks 1 and 2; then the end. */
    private static TarYard small() {
        TarYard yard = new TarYard();
        int dir = Yards.make(yard, 0, Yards.DIRECTORY, "d");
        int file = Yards.make(yard, dir, Yards.FILE, "f");
        yard.contents(file, 3, 9);
        yard.write();
        return yard;
    }

    /** Reads with the file's header changed at one place, and mends it. */
    private static void expectWith(String what, int i, int b, int due) {
        TarYard yard = small();
        yard.alter(HEADER + i, b);
        yard.check(1);
        Expect.same(what, yard.read(), due);
    }

    private static TarYard withText(int i, String text) {
        TarYard yard = small();
        Yards.alter(yard, HEADER + i, text);
        yard.check(1);
        return yard;
    }

    private static void expectText(String what, int i, String text, int due) {
        Expect.same(what, withText(i, text).read(), due);
    }

    private static void backAndForth() {
        TarYard yard = new TarYard();
        int file = Yards.make(yard, 0, Yards.FILE, "z");
        int dir = Yards.make(yard, 0, Yards.DIRECTORY, Yards.repeat('d', 80));
        int soft = Yards.make(yard, dir, Yards.SYMBOLIC_LINK, Yards.repeat('s', 60));
        Yards.make(yard, dir, Yards.HARD_LINK, "h", file);
        Yards.make(yard, dir, Yards.FILE, "empty");
        yard.contents(file, 2000, 100);
        Yards.target(yard, soft, Yards.repeat('t', 100));
        yard.set(file, 4095, 2097151, Integer.MAX_VALUE);
        yard.set(dir, 1, 2, 3);
        yard.write();
        yard.remove(dir);
        Expect.same("nodes", yard.read(), 6);
        Expect.same("place", yard.place(), TarYard.NONE);
        String[] names = {"", Yards.repeat('d', 80), "empty", Yards.repeat('s', 60), "z", "h"};
        int[] kinds = {0, 0, 1, 2, 1, 3};
        int[] dirs = {-1, 0, 1, 1, 0, 1};
        int[] lengths = {0, 0, 0, 100, 2000, 0};
        int[] files = {-1, -1, -1, -1, -1, 4};
        for (int i = 0; i < names.length; i++) {
            Yards.expectText("name " + i, Yards.name(yard, i), names[i]);
            Expect.same("kind " + i, yard.node(i, 0), kinds[i]);
            Expect.same("directory " + i, yard.node(i, 1), dirs[i]);
            Expect.same("length " + i, yard.node(i, 6), lengths[i]);
            Expect.same("file " + i, yard.node(i, 7), files[i]);
        }
        Yards.expectText("target", Yards.text(yard, 3, 1), Yards.repeat('t', 100));
        for (int i = 0; i < 2000; i++) {
            Expect.same("byte " + i, yard.part(4, 1, i), (100 + 31 * i) % 256);
        }
        Expect.same("mode", yard.node(4, 3), 4095);
        Expect.same("owner", yard.node(4, 4), 2097151);
        Expect.same("time", yard.node(4, 5), Integer.MAX_VALUE);
        Expect.same("mode of the directory", yard.node(1, 3), 1);
        Expect.same("owner of the directory", yard.node(1, 4), 2);
        Expect.same("time of the directory", yard.node(1, 5), 3);
        String once = Yards.state(yard);
        yard.write();
        yard.read();
        Yards.expectText("once more", Yards.state(yard), once);
        Expect.same("the tree can be changed", Yards.make(yard, 1, Yards.HARD_LINK, "i", 4), 6);
    }

    private static void theTreeStays() {
        TarYard yard = small();
        yard.remove(1);
        int other = Yards.make(yard, 0, Yards.FILE, "other");
        yard.contents(other, 5, 5);
        yard.set(0, 1, 2, 3);
        yard.alter(HEADER, 0);
        Expect.same("fault", yard.read(), -3);
        Expect.same("nodes", yard.total(0), 2);
        Yards.expectText("name", Yards.name(yard, 1), "other");
        Expect.same("length", yard.node(1, 6), 5);
        Expect.same("byte 4", yard.part(1, 1, 4), 5 + 31 * 4);
        Expect.same("root's mode", yard.node(0, 3), 1);
        Expect.same("bytes", yard.total(1), 5 * 512);
    }

    private static void faults1And2() {
        TarYard yard = small();
        int[] sizes = {0, 1, 511, 1536, 1537, 2047, 2048, 2049, 2559, 2560, 2561, 10240};
        int[] dues = {-1, -1, -1, -1, -1, -1, -2, -2, -2, 3, 3, 3};
        int[] places = {0, 0, 0, 3, 3, 3, 3, 3, 3, -1, -1, -1};
        for (int k = 0; k < sizes.length; k++) {
            yard.size(2560);
            yard.write();
            yard.size(sizes[k]);
            Expect.same("of " + sizes[k] + " bytes", yard.read(), dues[k]);
            Expect.same("place of " + sizes[k], yard.place(), places[k]);
        }
        yard.size(2560);
        yard.alter(2048, 1);
        Expect.same("the second is not zeros", yard.read(), -2);
        yard.alter(2048, 0);
        yard.alter(2559, 1);
        Expect.same("the last byte of the second", yard.read(), -2);
        yard.alter(2559, 0);
        yard.alter(2047, 1);
        Expect.same("the last byte of the first", yard.read(), -3);
    }

    private static void fault3() {
        TarYard yard = small();
        for (int i = 148; i < 156; i++) {
            int was = yard.alter(HEADER + i, i < 154 ? '9' : 48);
            Expect.same("byte " + i, yard.read(), -3);
            Expect.same("place", yard.place(), 1);
            yard.alter(HEADER + i, was);
        }
        int digit = yard.alter(HEADER + 153, 48 + (yard.hand(HEADER + 153) - 47) % 8);
        Expect.same("another sum", yard.read(), -3);
        yard.alter(HEADER + 153, digit);
        yard.alter(HEADER + 148, 32);
        Expect.same("a blank for a digit 48", yard.read(), -3);
        yard.alter(HEADER + 148, 48);
        Expect.same("as it was", yard.read(), 3);
        yard.alter(HEADER + 511, 1);
        Expect.same("the check comes first", yard.read(), -3);
        highBytes();
    }

    private static void highBytes() {
        TarYard yard = small();
        yard.alter(HEADER + 5, 255);
        yard.check(1);
        Expect.same("bytes are summed as 0 .. 255", yard.read(), -7);
    }

    private static void fault4() {
        for (int i = 257; i < 329; i++) {
            expectWith("byte " + i, i, 1, -4);
        }
        expectWith("version", 263, 32, -4);
        for (int i = 500; i < 512; i++) {
            expectWith("byte " + i, i, 1, -4);
        }
    }

    private static void fault5() {
        int[] starts = {100, 108, 116, 124, 136, 329, 337};
        int[] ends = {107, 115, 123, 135, 147, 336, 344};
        for (int k = 0; k < starts.length; k++) {
            for (int i = starts[k]; i < ends[k]; i++) {
                expectWith("digit 8 at " + i, i, 56, -5);
                expectWith("47 at " + i, i, 47, -5);
                expectWith("zero at " + i, i, 0, -5);
                expectWith("blank at " + i, i, 32, -5);
            }
            expectWith("no zero at " + ends[k], ends[k], 32, -5);
            expectWith("digit at " + ends[k], ends[k], 48, -5);
        }
        for (int k : new int[] {2, 5, 6}) {
            expectText("any number at " + starts[k], starts[k], "7654321", 3);
        }
        expectText("mode 4095", 100, "0007777", 3);
        expectText("mode 4096", 100, "0010000", -5);
        expectText("mode of 7 digits", 100, "7777777", -5);
        expectText("owner", 108, "7777777", 3);
        expectText("time 2147483647", 136, "17777777777", 3);
        expectText("time 2147483648", 136, "20000000000", -5);
        expectText("time 4294967296", 136, "40000000000", -5);
        expectText("time of 11 digits", 136, "77777777777", -5);
        TarYard yard = withText(136, "17777777777");
        yard.read();
        Expect.same("time", yard.node(2, 5), Integer.MAX_VALUE);
    }

    private static void fault6() {
        for (int type : new int[] {0, 1, 47, 51, 52, 54, 55, 103, 120, 255}) {
            expectWith("type " + type, 156, type, -6);
        }
        for (int type : new int[] {49, 50, 53}) {
            expectWith("with contents " + type, 156, type, -6);
        }
        TarYard yard = small();
        Yards.alter(yard, 124, "40000000000");
        yard.check(0);
        Expect.same("a directory with 4294967296 bytes", yard.read(), -6);
        Expect.same("its place", yard.place(), 0);
    }

    private static void fault7() {
        expectText("as it is", 0, "d/f", 3);
        expectWith("behind the first zero", 4, 'x', -7);
        expectWith("at the end of the second part", 99, 'x', -7);
        expectWith("at the end of the first part", 499, 'x', -7);
        expectWith("behind the zero of the first part", 346, 'x', -7);
        for (int letter : new int[] {1, 32, 127, 128, 255}) {
            expectWith("letter " + letter, 2, letter, -7);
        }
        expectText("of no length", 0, "\u0000\u0000\u0000", -7);
        expectText("a dot", 0, "d/.", -7);
        expectText("two dots", 0, "d/..", -7);
        expectText("three dots", 0, "d/...", 3);
        expectText("the way back", 0, "d/../f", -7);
        expectText("a dot on the way", 0, "./f", -7);
        expectText("an empty name", 0, "d//f", -7);
        expectText("from the root", 0, "/d/f", -7);
        expectText("only 47", 0, "/\u0000\u0000", -7);
        expectText("a file that ends in 47", 0, "d/f/", -7);
        expectText("the directory once more", 0, "d\u0000\u0000", -7);
        expectText("no such directory", 0, "e/f", -7);
        expectText("in the root", 0, "e\u0000\u0000", 3);
        expectText("in the root, of 100", 0, Yards.repeat('e', 100), 3);
        directories();
        inAFile();
        twice();
    }

    private static void directories() {
        TarYard yard = small();
        yard.alter(1, 'e');
        yard.check(0);
        Expect.same("a directory that does not end in 47", yard.read(), -7);
        Expect.same("its place", yard.place(), 0);
        TarYard bare = small();
        Yards.alter(bare, 0, "/\u0000");
        bare.check(0);
        Expect.same("the root itself", bare.read(), -7);
        TarYard doubled = small();
        Yards.alter(doubled, 0, "d//");
        doubled.check(0);
        Expect.same("ends in two 47", doubled.read(), -7);
        TarYard link = small();
        Yards.alter(link, 512, "d/f/");
        link.alter(512 + 156, 50);
        Yards.alter(link, 512 + 124, "00000000000");
        link.check(1);
        Expect.same("a link that ends in 47", link.read(), -7);
    }

    private static void inAFile() {
        TarYard yard = new TarYard();
        Yards.make(yard, 0, Yards.FILE, "a");
        Yards.make(yard, 0, Yards.FILE, "b");
        yard.write();
        Yards.alter(yard, 512, "a/b");
        yard.check(1);
        Expect.same("in a file", yard.read(), -7);
        Expect.same("its place", yard.place(), 1);
    }

    private static void twice() {
        TarYard yard = new TarYard();
        Yards.make(yard, 0, Yards.FILE, "a");
        Yards.make(yard, 0, Yards.SYMBOLIC_LINK, "b");
        yard.write();
        yard.alter(512, 'a');
        yard.check(1);
        Expect.same("a node of that name", yard.read(), -7);
        yard.alter(512, 'c');
        yard.check(1);
        Expect.same("another name", yard.read(), 3);
    }

    private static void partsOfAPath() {
        TarYard cut = small();
        Yards.alter(cut, HEADER, "f\u0000\u0000");
        Yards.alter(cut, HEADER + 345, "d");
        cut.check(1);
        Expect.same("a short path in two parts", cut.read(), 3);
        Expect.same("lies in d", cut.node(2, 1), 1);
        Yards.expectText("name", Yards.name(cut, 2), "f");
        Yards.alter(cut, HEADER + 345, "d/");
        cut.check(1);
        Expect.same("47 twice", cut.read(), -7);
        Yards.alter(cut, HEADER + 345, "/d");
        cut.check(1);
        Expect.same("47 first", cut.read(), -7);
        TarYard only = small();
        Yards.alter(only, 0, "\u0000\u0000");
        Yards.alter(only, 345, "d");
        only.check(0);
        Expect.same("a directory with a first part alone", only.read(), 3);
        Yards.alter(only, 345, Yards.repeat('x', 100));
        only.check(0);
        Expect.same("then another one is not there", only.read(), -7);
        Expect.same("which is at", only.place(), 1);
        Yards.alter(only, 345, Yards.repeat('x', 101));
        only.check(0);
        Expect.same("a name of 101", only.read(), -7);
        Expect.same("which is also at", only.place(), 0);
        TarYard none = small();
        Yards.alter(none, HEADER, "\u0000\u0000\u0000");
        Yards.alter(none, HEADER + 345, "f");
        none.check(1);
        Expect.same("a file with a first part alone", none.read(), -7);
    }

    /** A file f in block 0; a link to it or to other things in block 1. */
    private static int readLink(int kind, String target) {
        TarYard yard = new TarYard();
        int dir = Yards.make(yard, 0, Yards.DIRECTORY, "d");
        int file = Yards.make(yard, dir, Yards.FILE, "f");
        Yards.make(yard, 0, kind, "h", file);
        yard.write();
        Yards.alter(yard, 1024 + 157, target);
        yard.check(2);
        int answer = yard.read();
        Expect.same("place of " + target, yard.place(), answer < 0 ? 2 : TarYard.NONE);
        if (answer > 0 && kind == Yards.HARD_LINK) {
            Expect.same("file of " + target, yard.node(3, 7), 2);
        }
        if (answer > 0 && kind == Yards.SYMBOLIC_LINK) {
            Yards.expectText("target", Yards.text(yard, 3, 1), target);
        }
        return answer;
    }

    private static void fault8() {
        expectWith("a target of a file", 157, 'x', -8);
        expectWith("a target of a file behind a zero", 158, 'x', -8);
        expectWith("at the end of a target", 256, 'x', -8);
        TarYard yard = small();
        yard.alter(157, 'x');
        yard.check(0);
        Expect.same("a target of a directory", yard.read(), -8);
        Expect.same("a link with any characters", readLink(2, "!/..//~"), 4);
        Expect.same("a link of 100", readLink(2, Yards.repeat('~', 100)), 4);
        Expect.same("a link of none", readLink(2, ""), 4);
        for (String target : new String[] {"a b", "\u0001", "\u007f", "\u0080", "\u00ff", "a\u0000b", "\u0000a", " "}) {
            Expect.same("a link with " + target, readLink(2, target), -8);
        }
        Expect.same("a hard link", readLink(3, "d/f"), 4);
        for (String target : new String[] {"\u0000\u0000\u0000", "d\u0000\u0000", "d/\u0000", "d/g", "f\u0000\u0000", "d/f/", "/d/f",
            "d//f", "d/f\u0000x", "d/ff", "h\u0000\u0000", "d/./f", "d/f/f"}) {
            Expect.same("a hard link to " + target, readLink(3, target), -8);
        }
        hardLinksOfOthers();
    }

    private static void hardLinksOfOthers() {
        TarYard yard = new TarYard();
        int file = Yards.make(yard, 0, Yards.FILE, "f");
        Yards.make(yard, 0, Yards.SYMBOLIC_LINK, "s");
        Yards.make(yard, 0, Yards.HARD_LINK, "x", file);
        Yards.make(yard, 0, Yards.HARD_LINK, "y", file);
        yard.write();
        Expect.same("as it is", yard.read(), 5);
        yard.alter(3 * 512 + 157, 'x');
        yard.check(3);
        Expect.same("of a hard link", yard.read(), -8);
        yard.alter(3 * 512 + 157, 's');
        yard.check(3);
        Expect.same("of a symbolic link", yard.read(), -8);
        Expect.same("place", yard.place(), 3);
        TarYard early = new TarYard();
        int late = Yards.make(early, 0, Yards.FILE, "f");
        Yards.make(early, 0, Yards.HARD_LINK, "h", late);
        early.write();
        swapBlocks(early, 0, 1);
        Expect.same("of a file that comes later", early.read(), -8);
        Expect.same("its place", early.place(), 0);
    }

    private static void swapBlocks(TarYard yard, int one, int other) {
        for (int i = 0; i < 512; i++) {
            int was = yard.hand(one * 512 + i);
            yard.alter(one * 512 + i, yard.hand(other * 512 + i));
            yard.alter(other * 512 + i, was);
        }
    }

    private static void faults9To11() {
        expectText("2001", 124, "00000003721", -9);
        expectText("2000, but not there", 124, "00000003720", -10);
        expectText("very long", 124, "77777777777", -9);
        expectText("4294967296", 124, "40000000000", -9);
        expectText("no contents", 124, "00000000000", -3);
        expectText("3 blocks, all there, but then no more", 124, "00000003000", -1);
        expectText("4 blocks", 124, "00000003001", -10);
        TarYard yard = small();
        yard.size(1535);
        Expect.same("a byte is missing", yard.read(), -10);
        Expect.same("place", yard.place(), 1);
        yard.write();
        for (int i = 3; i < 512; i++) {
            yard.alter(1024 + i, 1);
            Expect.same("behind the contents at " + i, yard.read(), -11);
            Expect.same("place", yard.place(), 1);
            yard.alter(1024 + i, 0);
        }
        Expect.same("as it was", yard.read(), 3);
        wholeBlocks();
    }

    private static void wholeBlocks() {
        TarYard yard = new TarYard();
        int file = Yards.make(yard, 0, Yards.FILE, "f");
        yard.contents(file, 1024, 1);
        yard.write();
        Expect.same("nothing behind whole blocks", yard.read(), 2);
        Expect.same("last byte", yard.part(1, 1, 1023), (1 + 31 * 1023) % 256);
        Yards.alter(yard, 124, "00000001777");
        yard.check(0);
        Expect.same("a byte less", yard.read(), -11);
    }

    /** Each fault hides those behind it. */
    private static void faultsInOrder() {
        TarYard yard = small();
        yard.alter(1024 + 3, 1);
        expectAndGoOn(yard, -11);
        Yards.alter(yard, HEADER + 124, "00000003720");
        expectAndGoOn(yard, -10);
        Yards.alter(yard, HEADER + 124, "00000003721");
        expectAndGoOn(yard, -9);
        yard.alter(HEADER + 157, 'x');
        expectAndGoOn(yard, -8);
        yard.alter(HEADER, '/');
        expectAndGoOn(yard, -7);
        yard.alter(HEADER + 156, 'x');
        expectAndGoOn(yard, -6);
        yard.alter(HEADER + 100, 'x');
        expectAndGoOn(yard, -5);
        yard.alter(HEADER + 257, 'x');
        expectAndGoOn(yard, -4);
        yard.alter(HEADER + 155, 'x');
        Expect.same("fault", yard.read(), -3);
    }

    private static void expectAndGoOn(TarYard yard, int due) {
        yard.check(1);
        Expect.same("fault", yard.read(), due);
    }

    /** Entries need not stand in the order in which they would be written. */
    private static void freeOrder() {
        TarYard yard = new TarYard();
        Yards.make(yard, 0, Yards.FILE, "a");
        Yards.make(yard, 0, Yards.FILE, "b");
        int dir = Yards.make(yard, 0, Yards.DIRECTORY, "c");
        Yards.make(yard, dir, Yards.FILE, "d");
        yard.write();
        swapBlocks(yard, 0, 2);
        Expect.same("nodes", yard.read(), 5);
        String[] names = {"", "c", "b", "a", "d"};
        for (int i = 1; i < names.length; i++) {
            Yards.expectText("name " + i, Yards.name(yard, i), names[i]);
        }
        swapBlocks(yard, 0, 3);
        Expect.same("a directory that comes later", yard.read(), -7);
    }

    private static void behindTheEnd() {
        TarYard yard = small();
        yard.size(4000);
        for (int i = 2560; i < 4000; i++) {
            yard.alter(i, 7);
        }
        Expect.same("what comes behind is not looked at", yard.read(), 3);
        yard.size(1024);
        for (int i = 0; i < 1024; i++) {
            yard.alter(i, 0);
        }
        Expect.same("the root alone", yard.read(), 1);
        Expect.same("nodes", yard.total(0), 1);
    }

    private static void allBlocksTaken() {
        TarYard yard = new TarYard();
        for (int i = 0; i < 18; i++) {
            yard.make(0, Yards.FILE, 'a' + i, 1, 0);
        }
        yard.write();
        Expect.same("18 entries", yard.read(), 19);
        for (int block = 18; block < 20; block++) {
            for (int i = 0; i < 512; i++) {
                yard.alter(block * 512 + i, yard.hand(i));
            }
            yard.alter(block * 512, 'A' + block);
            yard.check(block);
        }
        Expect.same("20 entries and no end", yard.read(), -1);
        Expect.same("place", yard.place(), 20);
    }
}
