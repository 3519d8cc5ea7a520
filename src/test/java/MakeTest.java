/** Promise 2, and what a name is. */
public final class MakeTest {
    private static final int[] NO_NUMBERS = {-1, Integer.MIN_VALUE, Integer.MAX_VALUE};

    public static void main(String[] args) {
        Expect.holds("others 1, 2, .., as they were made", MakeTest::numbers);
        Expect.holds("A node in a directory", MakeTest::whereItLies);
        Expect.holds("its name n characters, the lowest byte of w first", MakeTest::names);
        Expect.holds("its name n characters", "bytes behind them are not looked at", MakeTest::bytesBehindTheName);
        Expect.holds("all 0 at first", MakeTest::zerosAtFirst);
        Expect.holds("A hard link stands for file of", MakeTest::hardLinks);
        Expect.holds("of others of is not looked at", MakeTest::ofIsNotLookedAt);
        Expect.holds("kind is not 0 .. 3", "the first that are not", MakeTest::noKinds);
        Expect.holds("kind is not 0 .. 3", "the last that are", MakeTest::kinds);
        Expect.holds("in is no directory", MakeTest::noDirectories);
        Expect.holds("n is not 1 .. 8", "the first that are not", MakeTest::noLengths);
        Expect.holds("n is not 1 .. 8", "the last that are", MakeTest::lengths);
        Expect.holds("a NAME of 1 to 100 characters", "of each kind", MakeTest::shortestAndLongest);
        Expect.holds("characters (33 .. 126 but 47)", "each alone", MakeTest::eachCharacterAlone);
        Expect.holds("characters (33 .. 126 but 47)", "each behind another one", MakeTest::eachCharacterBehind);
        Expect.holds("characters (33 .. 126 but 47)", "each as the eighth", MakeTest::eachCharacterAsTheEighth);
        Expect.holds("none of \".\" and \"..\"", "these two", MakeTest::dots);
        Expect.holds("none of \".\" and \"..\"", "what is near them", MakeTest::nearDots);
        Expect.holds("no two alike in a directory", "of any kinds", MakeTest::alike);
        Expect.holds("no two alike in a directory", "nearly alike", MakeTest::nearlyAlike);
        Expect.holds("no two alike in a directory", "in another directory", MakeTest::alikeElsewhere);
        Expect.holds("no two alike in a directory", "of 100 characters", MakeTest::alikeOfHundred);
        Expect.holds("of is no file", MakeTest::noFiles);
        Expect.holds("there are 30 nodes", "the last that is made", MakeTest::lastNode);
        Expect.holds("there are 30 nodes", "one more of each kind", MakeTest::oneMore);
        Expect.holds("there are 30 nodes", "until one is gone", MakeTest::roomAgain);
        Expect.holds("of several exceptions that fit the one named first is thrown", MakeTest::argumentsComeFirst);
        Expect.holds("A call that throws changes nothing", MakeTest::nothingChanges);
        Expect.done();
    }

    /** A directory 1, a file 2, a symbolic link 3 and a hard link 4, all in the root. */
    private static Yard ofEachKind() {
        Yard yard = new Yard();
        yard.make(0, Yard.DIRECTORY, "dir");
        yard.make(0, Yard.FILE, "file");
        yard.make(0, Yard.SYMBOLIC_LINK, "soft");
        yard.make(0, Yard.HARD_LINK, "hard", 2);
        return yard;
    }

    /** 30 nodes: a file 1, a directory 2, and directories one in another behind it. */
    private static Yard full() {
        Yard yard = new Yard();
        yard.make(0, Yard.FILE, "f");
        yard.make(0, Yard.DIRECTORY, "d");
        for (int in = 2; in < 29; in++) {
            yard.make(in, Yard.DIRECTORY, "d");
        }
        return yard;
    }

    private static void numbers() {
        Yard yard = new Yard();
        for (int i = 1; i < 30; i++) {
            Expect.same("make", yard.make(0, i % 3, 'A' + i, 1, 0), i);
            Expect.same("nodes", yard.total(0), i + 1);
            Expect.same("its character", yard.part(i, 0, 0), 'A' + i);
        }
    }

    private static void whereItLies() {
        Yard yard = new Yard();
        for (int i = 1; i < 30; i++) {
            yard.make(i / 2, Yard.DIRECTORY, i % 2 == 0 ? "a" : "b");
        }
        for (int i = 1; i < 30; i++) {
            Expect.same("directory of " + i, yard.node(i, 1), i / 2);
        }
    }

    private static void names() {
        Yard yard = new Yard();
        yard.make(0, Yard.FILE, 0x4142434445464748L, 8, 0);
        Expect.text("eight", yard.name(1), "HGFEDCBA");
        yard.make(0, Yard.FILE, 0x4142434445464748L, 3, 0);
        Expect.text("three", yard.name(2), "HGF");
        yard.make(0, Yard.FILE, 0x7e7d7c7b7a797877L, 8, 0);
        Expect.text("the highest", yard.name(3), "wxyz{|}~");
    }

    private static void bytesBehindTheName() {
        Yard yard = new Yard();
        Expect.same("255 behind", yard.make(0, Yard.FILE, 0xffffffffffffff41L, 1, 0), 1);
        Expect.same("0 behind", yard.make(0, Yard.FILE, 0x42L, 1, 0), 2);
        Expect.same("47 behind seven", yard.make(0, Yard.FILE, 0x2f44434241444342L, 7, 0), 3);
        Expect.text("one", yard.name(1), "A");
        Expect.text("seven", yard.name(3), "BCDABCD");
        Expect.refused(yard, "alike but behind", y -> y.make(0, Yard.FILE, 0x4341L, 1, 0));
    }

    private static void zerosAtFirst() {
        Yard yard = ofEachKind();
        for (int node = 1; node < 5; node++) {
            for (int what = 3; what <= 6; what++) {
                Expect.same("node(" + node + ", " + what + ")", yard.node(node, what), 0);
            }
        }
    }

    private static void hardLinks() {
        Yard yard = ofEachKind();
        Expect.same("file of the link", yard.node(4, 7), 2);
        int last = yard.make(1, Yard.FILE, "last");
        Expect.same("of the last node", yard.node(yard.make(0, Yard.HARD_LINK, "a", last), 7), last);
        Expect.same("another one of a file", yard.node(yard.make(1, Yard.HARD_LINK, "b", 2), 7), 2);
        Yard first = new Yard();
        first.make(0, Yard.FILE, "f");
        Expect.same("of the first node", first.node(first.make(0, Yard.HARD_LINK, "h", 1), 7), 1);
    }

    private static void ofIsNotLookedAt() {
        Yard yard = ofEachKind();
        int letter = 'A';
        for (int of : new int[] {0, 1, 2, 3, 4, 30, -1, Integer.MIN_VALUE, Integer.MAX_VALUE}) {
            int kind = letter % 3;
            int made = yard.make(0, kind, letter, 1, of);
            Expect.same("kind", yard.node(made, 0), kind);
            Expect.same("no file", yard.node(made, 7), Yard.NONE);
            letter++;
        }
    }

    private static void noKinds() {
        Yard yard = ofEachKind();
        for (int kind : new int[] {-1, 4, 5, 48, 53, Integer.MIN_VALUE, Integer.MAX_VALUE}) {
            Expect.refused(yard, "kind " + kind, y -> y.make(0, kind, 'x', 1, 2));
        }
    }

    private static void kinds() {
        Yard yard = ofEachKind();
        for (int kind = 0; kind <= 3; kind++) {
            int made = yard.make(0, kind, 'a' + kind, 1, 2);
            Expect.same("kind", yard.node(made, 0), kind);
        }
    }

    private static void noDirectories() {
        Yard yard = ofEachKind();
        Expect.same("in the root", yard.make(0, Yard.FILE, "x"), 5);
        Expect.same("in a directory", yard.make(1, Yard.FILE, "x"), 6);
        for (int in : new int[] {2, 3, 4, 5, 6, 7, 29, 30, -1, Integer.MIN_VALUE, Integer.MAX_VALUE}) {
            Expect.refused(yard, "in " + in, y -> y.make(in, Yard.FILE, 'y', 1, 0));
        }
    }

    private static void noLengths() {
        Yard yard = new Yard();
        for (int n : new int[] {0, -1, 9, 100, 264, Integer.MIN_VALUE, Integer.MAX_VALUE}) {
            Expect.refused(yard, "n " + n, y -> y.make(0, Yard.FILE, Yard.word("abcdefgh"), n, 0));
        }
    }

    private static void lengths() {
        Yard yard = new Yard();
        for (int n = 1; n <= 8; n++) {
            int made = yard.make(0, Yard.FILE, Yard.word("abcdefgh"), n, 0);
            Expect.text("n " + n, yard.name(made), "abcdefgh".substring(0, n));
            Expect.same("how long", yard.node(made, 2), n);
        }
    }

    private static void shortestAndLongest() {
        for (int kind = 0; kind <= 3; kind++) {
            Yard yard = ofEachKind();
            int shortest = yard.make(1, kind, "!", 2);
            int longest = yard.make(1, kind, Yard.repeat('~', 100), 2);
            Expect.text("shortest of kind " + kind, yard.name(shortest), "!");
            Expect.text("longest of kind " + kind, yard.name(longest), Yard.repeat('~', 100));
            Expect.full(yard, "longer of kind " + kind, y -> y.rename(longest, '~', 1));
        }
    }

    private static boolean mayStandInAName(int letter) {
        return letter >= 33 && letter <= 126 && letter != 47;
    }

    private static void eachCharacter(String before, boolean due, int letter) {
        Yard yard = new Yard();
        String name = before + (char) letter;
        if (due) {
            yard.make(0, letter % 3, Yard.word(name), name.length(), 0);
            Expect.text("character " + letter, yard.name(1), name);
        } else {
            Expect.refused(yard, "character " + letter, y -> y.make(0, letter % 3, Yard.word(name), name.length(), 0));
        }
    }

    private static void eachCharacterAlone() {
        for (int letter = 0; letter < 256; letter++) {
            eachCharacter("", mayStandInAName(letter) && letter != '.', letter);
        }
    }

    private static void eachCharacterBehind() {
        for (int letter = 0; letter < 256; letter++) {
            eachCharacter("a", mayStandInAName(letter), letter);
        }
    }

    private static void eachCharacterAsTheEighth() {
        for (int letter = 0; letter < 256; letter++) {
            eachCharacter("abcdefg", mayStandInAName(letter), letter);
        }
    }

    private static void dots() {
        Yard yard = ofEachKind();
        for (int kind = 0; kind <= 3; kind++) {
            int ofKind = kind;
            Expect.refused(yard, "one of kind " + kind, y -> y.make(0, ofKind, Yard.word("."), 1, 2));
            Expect.refused(yard, "two of kind " + kind, y -> y.make(1, ofKind, Yard.word(".."), 2, 2));
        }
    }

    private static void nearDots() {
        Yard yard = new Yard();
        for (String name : new String[] {"...", "........", ".a", "a.", "..a", "a..", ".a.", ".-", "-."}) {
            int made = yard.make(0, Yard.DIRECTORY, name);
            Expect.text("name", yard.name(made), name);
        }
    }

    private static void alike() {
        Yard yard = ofEachKind();
        String[] names = {"dir", "file", "soft", "hard"};
        for (String name : names) {
            for (int kind = 0; kind <= 3; kind++) {
                int ofKind = kind;
                Expect.refused(yard, name + " of kind " + kind, y -> y.make(0, ofKind, Yard.word(name), name.length(), 2));
            }
        }
    }

    private static void nearlyAlike() {
        Yard yard = new Yard();
        String[] names = {"abc", "ab", "abcd", "abC", "bac", "a", "b", "aabc", "abcdefgh", "abcdefgi", "bbcdefgh"};
        for (int i = 0; i < names.length; i++) {
            Expect.same("name " + names[i], yard.make(0, Yard.FILE, names[i]), i + 1);
        }
    }

    private static void alikeElsewhere() {
        Yard yard = new Yard();
        int one = yard.make(0, Yard.DIRECTORY, "x");
        int inside = yard.make(one, Yard.DIRECTORY, "x");
        int two = yard.make(0, Yard.DIRECTORY, "y");
        Expect.same("as in the directory beside it", yard.make(two, Yard.FILE, "x"), 4);
        Expect.same("as the directories round it", yard.make(inside, Yard.FILE, "x"), 5);
        Expect.refused(yard, "as one in it", y -> y.make(one, Yard.FILE, 'x', 1, 0));
        yard.remove(inside);
        Expect.same("as one that is gone", yard.make(one, Yard.FILE, "x"), 4);
    }

    private static void alikeOfHundred() {
        Yard yard = new Yard();
        yard.make(0, Yard.FILE, Yard.repeat('x', 100));
        int other = yard.make(0, Yard.FILE, Yard.repeat('x', 99) + "y");
        Expect.same("another hundredth character", yard.node(other, 2), 100);
        Expect.same("its beginning", yard.make(0, Yard.FILE, "xxxxxxxx"), 3);
    }

    private static void noFiles() {
        Yard yard = ofEachKind();
        for (int of : new int[] {0, 1, 3, 4, 5, 6, 29, 30, -1, Integer.MIN_VALUE, Integer.MAX_VALUE}) {
            Expect.refused(yard, "of " + of, y -> y.make(0, Yard.HARD_LINK, 'x', 1, of));
        }
        Expect.same("of the file", yard.make(0, Yard.HARD_LINK, 'x', 1, 2), 5);
    }

    private static void lastNode() {
        Yard yard = new Yard();
        for (int i = 1; i < 29; i++) {
            yard.make(0, Yard.FILE, 'A' + i, 1, 0);
        }
        Expect.same("nodes", yard.total(0), 29);
        Expect.same("the last", yard.make(0, Yard.FILE, '!', 1, 0), 29);
        Expect.same("nodes then", yard.total(0), 30);
    }

    private static void oneMore() {
        Yard yard = full();
        for (int kind = 0; kind <= 3; kind++) {
            int ofKind = kind;
            Expect.full(yard, "kind " + kind, y -> y.make(29, ofKind, 'x', 1, 1));
            Expect.full(yard, "kind " + kind + " in the root", y -> y.make(0, ofKind, Yard.word("abcdefgh"), 8, 1));
        }
        Expect.same("nodes", yard.total(0), 30);
    }

    private static void roomAgain() {
        Yard yard = full();
        yard.remove(29);
        Expect.same("again", yard.make(28, Yard.FILE, "x"), 29);
        Expect.full(yard, "and no more", y -> y.make(0, Yard.FILE, 'x', 1, 0));
        yard.remove(1);
        Expect.same("the last moved up", yard.make(0, Yard.FILE, "x"), 29);
    }

    private static void argumentsComeFirst() {
        Yard yard = full();
        for (int none : NO_NUMBERS) {
            Expect.refused(yard, "kind " + none, y -> y.make(0, none, 'x', 1, 1));
            Expect.refused(yard, "in " + none, y -> y.make(none, Yard.FILE, 'x', 1, 1));
            Expect.refused(yard, "n " + none, y -> y.make(0, Yard.FILE, 'x', none, 1));
            Expect.refused(yard, "of " + none, y -> y.make(0, Yard.HARD_LINK, 'x', 1, none));
        }
        Expect.refused(yard, "in a file", y -> y.make(1, Yard.FILE, 'x', 1, 1));
        Expect.refused(yard, "in node 30", y -> y.make(30, Yard.FILE, 'x', 1, 1));
        Expect.refused(yard, "n 9", y -> y.make(0, Yard.FILE, Yard.word("abcdefgh"), 9, 1));
        Expect.refused(yard, "no name", y -> y.make(0, Yard.FILE, '/', 1, 1));
        Expect.refused(yard, "a dot", y -> y.make(0, Yard.FILE, '.', 1, 1));
        Expect.refused(yard, "a name that is there", y -> y.make(0, Yard.FILE, 'f', 1, 1));
        Expect.refused(yard, "of a directory", y -> y.make(0, Yard.HARD_LINK, 'x', 1, 2));
    }

    private static void nothingChanges() {
        Yard yard = ofEachKind();
        yard.contents(2, 600, 3);
        yard.fill(3, "target");
        yard.set(1, 1, 2, 3);
        yard.write();
        yard.alter(0, 'x');
        yard.read();
        Expect.refused(yard, "kind", y -> y.make(0, 4, 'x', 1, 2));
        Expect.refused(yard, "in", y -> y.make(2, Yard.FILE, 'x', 1, 2));
        Expect.refused(yard, "n", y -> y.make(0, Yard.FILE, 'x', 9, 2));
        Expect.refused(yard, "name", y -> y.make(0, Yard.FILE, ' ', 1, 2));
        Expect.refused(yard, "a name that is there", y -> y.make(0, Yard.FILE, Yard.word("file"), 4, 2));
        Expect.refused(yard, "of", y -> y.make(0, Yard.HARD_LINK, 'x', 1, 3));
        Expect.same("the next number", yard.make(0, Yard.FILE, "x"), 5);
    }
}
