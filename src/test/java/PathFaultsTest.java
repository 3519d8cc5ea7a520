/** READING, FAULTS 7 and 8: paths and targets. */
public final class PathFaultsTest {
    public static void main(String[] args) {
        Expect.holds("7 behind the first zero of the path's second or first part", "the second", PathFaultsTest::behindTheSecondPart);
        Expect.holds("7 behind the first zero of the path's second or first part", "the first", PathFaultsTest::behindTheFirstPart);
        Expect.holds("7 behind the first zero of the path's second or first part", "parts without a zero", PathFaultsTest::noZero);
        Expect.holds("has a name that is none such", "each character", PathFaultsTest::eachCharacter);
        Expect.holds("has a name that is none such", "each character on the way", PathFaultsTest::eachCharacterOnTheWay);
        Expect.holds("has a name that is none such", "no character", PathFaultsTest::emptyNames);
        Expect.holds("has a name that is none such", "dots", PathFaultsTest::dots);
        Expect.holds("has a name that is none such", "100 and 101 characters", PathFaultsTest::longNames);
        Expect.holds("or ends in 47 and is no directory's", PathFaultsTest::endsIn47);
        Expect.holds("or does not and is one's", PathFaultsTest::doesNotEndIn47);
        Expect.holds("the directory it lies in is not there", "none of that name", PathFaultsTest::noDirectory);
        Expect.holds("the directory it lies in is not there", "no directory", PathFaultsTest::inOtherKinds);
        Expect.holds("the directory it lies in is not there", "not yet", PathFaultsTest::directoryBehindIt);
        Expect.holds("or a node of that name is there", PathFaultsTest::twice);
        Expect.holds("or a node of that name is there", "nearly, or elsewhere", PathFaultsTest::nearlyTwice);
        Expect.holds("8 likewise a zero in the target with something behind", PathFaultsTest::behindTheTarget);
        Expect.holds("or a target of a file or directory", PathFaultsTest::targetsOfOthers);
        Expect.holds("one of a symbolic link with other characters", "each character", PathFaultsTest::charactersOfATarget);
        Expect.holds("one of a symbolic link", "of 0 and of 100 characters", PathFaultsTest::lengthsOfATarget);
        Expect.holds("or of a hard link that is no file's path that is there", PathFaultsTest::noFilesPath);
        Expect.holds("or of a hard link that is no file's path that is there", "one that is", PathFaultsTest::filesPath);
        Expect.holds("or of a hard link that is no file's path that is there", "of another kind", PathFaultsTest::otherKinds);
        Expect.holds("or of a hard link that is no file's path that is there", "not yet", PathFaultsTest::fileBehindIt);
        Expect.done();
    }

    private static void expectFault7(String what, int i, String text) {
        new Archive().with(i, text).expectFault(what, 7);
    }

    private static void expectPath(String path, int dir, String name) {
        Archive archive = new Archive().with(0, path + Yard.repeat('\0', Math.max(0, 3 - path.length())));
        archive.expectBoth("path " + path);
        Expect.same("directory of " + path, archive.yard.node(2, 1), dir);
        Expect.text("name of " + path, archive.yard.name(2), name);
    }

    private static void behindTheSecondPart() {
        for (int i : new int[] {4, 5, 50, 98, 99}) {
            new Archive().with(i, 'x').expectFault("byte " + i, 7);
            new Archive().with(i, 255).expectFault("255 in byte " + i, 7);
        }
        expectPath("d/fx", 1, "fx");
        expectFault7("two zeros between", 0, "d/f\0\0x");
        expectFault7("a zero first", 0, "\0/f");
    }

    private static void behindTheFirstPart() {
        for (int i : new int[] {346, 347, 400, 498, 499}) {
            new Archive().with(i, 'x').expectFault("byte " + i, 7);
        }
        Archive archive = new Archive().with(0, "f\0\0").with(345, "d");
        archive.expectBoth("the first alone");
        archive.with(347, 'x').expectFault("behind a first part", 7);
        archive.with(347, 0).with(499, 1).expectFault("at its end", 7);
    }

    private static void noZero() {
        String a = Yard.repeat('a', 90);
        String b = Yard.repeat('b', 64);
        Yard yard = new Yard();
        yard.make(0, Yard.DIRECTORY, a);
        yard.make(1, Yard.DIRECTORY, b);
        yard.make(2, Yard.FILE, Yard.repeat('c', 100));
        yard.write();
        yard.make(0, Yard.FILE, "other");
        Archive.expectNodes(yard, "parts of 155 and 100", 4);
        Expect.text("name", yard.name(3), Yard.repeat('c', 100));
        yard.alter(1024 + 99, 0);
        yard.check(2);
        Archive.expectNodes(yard, "parts of 155 and 99", 4);
        Expect.text("name", yard.name(3), Yard.repeat('c', 99));
        yard.alter(1024 + 499, 0);
        yard.check(2);
        Archive.expectFault(yard, "parts of 154 and 99", 7, 2);
    }

    private static boolean mayStandInAName(int letter) {
        return letter >= 33 && letter <= 126 && letter != 47;
    }

    private static void eachCharacter() {
        for (int letter = 1; letter < 256; letter++) {
            Archive archive = new Archive().with(2, letter);
            if (mayStandInAName(letter) && letter != '.') {
                archive.expectBoth("character " + letter);
                Expect.same("name", archive.yard.part(2, 0, 0), letter);
            } else {
                archive.expectFault("character " + letter, 7);
            }
        }
    }

    /** The directory has that name too, where it may have it. */
    private static void eachCharacterOnTheWay() {
        for (int letter = 1; letter < 256; letter++) {
            Archive archive = new Archive().withDirectory(0, "" + (char) letter).with(0, letter);
            boolean isName = mayStandInAName(letter) && letter != '.';
            if (isName) {
                archive.expectBoth("character " + letter);
            } else {
                Archive.expectFault(archive.yard, "character " + letter, 7, 0);
            }
        }
        for (int letter : new int[] {1, 32, 46, 127, 128, 255}) {
            new Archive().with(0, letter).expectFault("a way that is not there: " + letter, 7);
        }
    }

    private static void emptyNames() {
        expectFault7("nothing at all", 0, "\0\0\0");
        expectFault7("47 alone", 0, "/\0\0");
        expectFault7("47 before", 0, "/d/f");
        expectFault7("47 before a name", 0, "/f\0");
        expectFault7("two between", 0, "d//f");
        expectFault7("nothing behind", 0, "d/\0");
        Archive.expectFault(new Archive().withDirectory(0, "/\0").yard, "the root itself", 7, 0);
        Archive.expectFault(new Archive().withDirectory(0, "//").yard, "two 47", 7, 0);
        Archive.expectFault(new Archive().withDirectory(0, "\0\0").yard, "a directory of nothing", 7, 0);
        Archive.expectFault(new Archive().withDirectory(0, "d//").yard, "two 47 behind a name", 7, 0);
        Archive two = new Archive().with(0, "f\0\0").with(345, "d/");
        two.expectFault("47 at the end of the first part", 7);
        Archive before = new Archive().with(0, "f\0\0").with(345, "/d");
        before.expectFault("47 before the first part", 7);
        Archive second = new Archive().with(0, "/f\0").with(345, "d");
        second.expectFault("47 before the second part", 7);
        Archive alone = new Archive().with(0, "\0\0\0").with(345, "f");
        alone.expectFault("a file with a first part alone", 7);
    }

    private static void dots() {
        expectFault7("one", 0, "d/.");
        expectFault7("two", 0, "d/..");
        expectFault7("one in the root", 0, ".\0\0");
        expectFault7("two in the root", 0, "..\0");
        expectFault7("one on the way", 0, "./f");
        expectFault7("one further on the way", 0, "d/./f");
        expectFault7("two on the way", 0, "d/../f");
        expectPath("d/...", 1, "...");
        expectPath("...", 0, "...");
        expectPath("d/.f", 1, ".f");
        expectPath("d/f.", 1, "f.");
        expectPath("..f", 0, "..f");
        Archive.expectFault(new Archive().withDirectory(0, "./").yard, "a directory of one", 7, 0);
        Archive.expectFault(new Archive().withDirectory(0, "../").yard, "a directory of two", 7, 0);
    }

    private static void longNames() {
        expectPath(Yard.repeat('e', 100), 0, Yard.repeat('e', 100));
        Archive hundred = new Archive().withDirectory(0, "\0\0").withDirectory(345, Yard.repeat('x', 100));
        hundred.with(0, "e\0\0");
        hundred.expectBoth("a directory of 100");
        Expect.text("its name", hundred.yard.name(1), Yard.repeat('x', 100));
        Archive more = new Archive().withDirectory(0, "\0\0").withDirectory(345, Yard.repeat('x', 101));
        Archive.expectFault(more.yard, "a directory of 101", 7, 0);
        Archive most = new Archive().withDirectory(0, "\0\0").withDirectory(345, Yard.repeat('x', 155));
        Archive.expectFault(most.yard, "a directory of 155", 7, 0);
    }

    private static void endsIn47() {
        expectFault7("a file", 0, "d/f/");
        expectFault7("a file in the root", 0, "e/\0");
        new Archive().with(0, "d/f/").with(124, "00000000000").with(156, 50).expectFault("a symbolic link", 7);
        new Archive().with(0, "d/f/").with(124, "00000000000").with(156, 49).expectFault("a hard link", 7);
        Archive directory = new Archive().with(0, "d/f/").with(124, "00000000000").with(156, 53).cutTo(1024).cutTo(2048);
        directory.expectBoth("but a directory may");
        Expect.same("kind", directory.yard.node(2, 0), Yard.DIRECTORY);
    }

    private static void doesNotEndIn47() {
        Archive.expectFault(new Archive().withDirectory(1, "\0").yard, "d", 7, 0);
        Archive.expectFault(new Archive().withDirectory(1, "e").yard, "de", 7, 0);
        new Archive().with(124, "00000000000").with(156, 53).expectFault("d/f", 7);
        Archive.expectFault(new Archive().withDirectory(0, Yard.repeat('d', 100)).yard, "a second part of 100", 7, 0);
    }

    private static void noDirectory() {
        expectFault7("another one", 0, "e/f");
        expectFault7("a longer name", 0, "dd/f");
        expectFault7("one further on", 0, "d/e/f");
        expectFault7("its beginning", 0, "D/f");
        expectPath("e", 0, "e");
        Archive longer = new Archive().withDirectory(0, "de/");
        longer.expectFault("the directory has a longer name", 7);
        Archive first = new Archive().with(0, "f\0\0").with(345, "e");
        first.expectFault("a first part that is not there", 7);
    }

    /** A file a, a symbolic link b and a hard link c; then a file that is to lie in one of them. */
    private static void inOtherKinds() {
        for (String in : new String[] {"a", "b", "c"}) {
            Yard yard = new Yard();
            yard.make(0, Yard.FILE, "a");
            yard.make(0, Yard.SYMBOLIC_LINK, "b");
            yard.make(0, Yard.HARD_LINK, "c", 1);
            yard.make(0, Yard.HARD_LINK, "d", 1);
            yard.write();
            yard.make(0, Yard.FILE, "other");
            yard.alter(3 * 512, in + "/d");
            yard.check(3);
            Archive.expectFault(yard, "in " + in, 7, 3);
            yard.alter(3 * 512, "e\0\0");
            yard.check(3);
            Archive.expectNodes(yard, "in the root", 5);
        }
    }

    private static void directoryBehindIt() {
        Yard yard = new Yard();
        yard.make(0, Yard.FILE, "a");
        yard.make(0, Yard.DIRECTORY, "b");
        yard.write();
        yard.alter(0, "b/a");
        yard.check(0);
        yard.make(2, Yard.FILE, "c");
        Archive.expectFault(yard, "a directory that comes later, and is in the tree that was", 7, 0);
    }

    private static void twice() {
        for (int kind = 0; kind <= 3; kind++) {
            Yard yard = new Yard();
            yard.make(0, Yard.FILE, "a");
            yard.make(0, kind, "b", 1);
            yard.write();
            yard.remove(1);
            yard.alter(512, 'a');
            yard.check(1);
            Archive.expectFault(yard, "kind " + kind, 7, 1);
            yard.alter(512, 'c');
            yard.check(1);
            Archive.expectNodes(yard, "another name", 3);
        }
        expectFault7("the directory once more", 0, "d\0\0");
        Archive again = new Archive().with(124, "00000000000").with(156, 53).with(0, "d/\0");
        again.expectFault("a directory twice", 7);
    }

    private static void nearlyTwice() {
        expectPath("d/d", 1, "d");
        expectPath("D", 0, "D");
        expectPath("dd", 0, "dd");
        Archive archive = new Archive();
        archive.yard.make(0, Yard.DIRECTORY, "d");
        archive.expectBoth("as in the tree that was");
    }

    private static void behindTheTarget() {
        for (int type : new int[] {48, 50, 49}) {
            for (int i : new int[] {158, 159, 256}) {
                Archive archive = new Archive().with(124, "00000000000").with(156, type).with(i, 'x');
                archive.expectFault("byte " + i + " of type " + type, 8);
            }
        }
        Archive link = new Archive().with(124, "00000000000").with(156, 50).with(157, "a\0b");
        link.expectFault("between", 8);
        Archive.expectFault(new Archive().withDirectory(256, "x").yard, "a directory", 8, 0);
        Yard hard = hardLink("d/f\0x");
        Archive.expectFault(hard, "behind a hard link's", 8, 2);
    }

    private static void targetsOfOthers() {
        new Archive().with(157, 'x').expectFault("a file", 8);
        new Archive().with(157, "d/f").expectFault("a file's own path", 8);
        new Archive().with(157, Yard.repeat('x', 100)).expectFault("a file, of 100", 8);
        Archive.expectFault(new Archive().withDirectory(157, "x").yard, "a directory", 8, 0);
        Archive.expectFault(new Archive().withDirectory(157, "\1").yard, "a directory, of other characters", 8, 0);
    }

    private static Archive softLink(String target) {
        return new Archive().with(124, "00000000000").cutTo(1024).cutTo(2048).with(156, 50).with(157, target);
    }

    private static void charactersOfATarget() {
        for (int letter = 1; letter < 256; letter++) {
            Archive archive = softLink("a" + (char) letter);
            if (letter >= 33 && letter <= 126) {
                archive.expectBoth("character " + letter);
                Expect.text("target", archive.yard.body(2), "a" + (char) letter);
            } else {
                archive.expectFault("character " + letter, 8);
            }
        }
        softLink(" a").expectFault("the first of two", 8);
    }

    private static void lengthsOfATarget() {
        for (int length : new int[] {0, 1, 99, 100}) {
            Archive archive = softLink(Yard.repeat('t', length));
            archive.expectBoth("of " + length);
            Expect.text("target", archive.yard.body(2), Yard.repeat('t', length));
        }
        softLink("/../no//such/.").expectBoth("of a path that is not there");
        softLink(Yard.repeat('t', 99) + " ").expectFault("a blank as the hundredth", 8);
    }

    /** A directory d, a file d/f in it, and a hard link h with another target, in block 2. */
    private static Yard hardLink(String target) {
        Yard yard = new Yard();
        yard.make(0, Yard.DIRECTORY, "d");
        yard.make(1, Yard.FILE, "f");
        yard.make(0, Yard.HARD_LINK, "h", 2);
        yard.write();
        yard.make(1, Yard.FILE, "g");
        yard.alter(1024 + 157, target);
        yard.check(2);
        return yard;
    }

    private static void noFilesPath() {
        for (String target : new String[] {"\0\0\0", "/\0\0", "d\0\0", "d/\0", "d/g", "f\0\0", "d/f/", "/d/f", "d//f", "d/ff", "d/F",
            "h\0\0", "d/./f", "./d/f", "d/../d/f", "d/f/f", "d/f//", "d f", "\1/f", Yard.repeat('d', 100)}) {
            Archive.expectFault(hardLink(target), "of " + target, 8, 2);
        }
    }

    private static void filesPath() {
        Yard yard = hardLink("d/f");
        Archive.expectNodes(yard, "of d/f", 4);
        Expect.same("its file", yard.node(3, 7), 2);
        Yard longest = new Yard();
        longest.make(0, Yard.FILE, Yard.repeat('f', 100));
        longest.make(0, Yard.FILE, Yard.repeat('f', 99));
        longest.make(0, Yard.HARD_LINK, "h", 1);
        longest.make(0, Yard.HARD_LINK, "i", 2);
        longest.write();
        Archive.expectNodes(longest, "of 100 and 99", 5);
        Expect.same("the file of 99", longest.node(4, 7), 1);
        Expect.same("the file of 100", longest.node(3, 7), 2);
    }

    private static void otherKinds() {
        for (String target : new String[] {"d", "s", "x", "y"}) {
            Yard yard = new Yard();
            yard.make(0, Yard.FILE, "f");
            yard.make(0, Yard.DIRECTORY, "d");
            yard.make(0, Yard.SYMBOLIC_LINK, "s");
            yard.make(0, Yard.HARD_LINK, "x", 1);
            yard.make(0, Yard.HARD_LINK, "y", 1);
            yard.write();
            yard.make(0, Yard.FILE, "other");
            yard.alter(4 * 512 + 157, target);
            yard.check(4);
            Archive.expectFault(yard, "of " + target, 8, 4);
        }
    }

    private static void fileBehindIt() {
        Yard yard = new Yard();
        yard.make(0, Yard.FILE, "a");
        yard.make(0, Yard.FILE, "b");
        yard.write();
        yard.alter(156, 49);
        yard.alter(157, 'b');
        yard.check(0);
        Archive.expectFault(yard, "a file that comes later, and is in the tree that was", 8, 0);
        yard.alter(157, 'a');
        yard.check(0);
        Archive.expectFault(yard, "itself", 8, 0);
    }
}
