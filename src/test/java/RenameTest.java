/** Promise 3. */
public final class RenameTest {
    private static final long EIGHT = Yard.word("abcdefgh");

    public static void main(String[] args) {
        Expect.holds("A node's name gets n characters more: how long it is", RenameTest::grows);
        Expect.holds("A node's name gets n characters more", "of each kind", RenameTest::ofEachKind);
        Expect.holds("A node's name gets n characters more", "bytes behind them are not looked at", RenameTest::bytesBehind);
        Expect.holds("it is the root", RenameTest::theRoot);
        Expect.holds("there is no such node", RenameTest::noSuchNodes);
        Expect.holds("n is not 1 .. 8", "the first that are not", RenameTest::noLengths);
        Expect.holds("n is not 1 .. 8", "the last that are", RenameTest::lengths);
        Expect.holds("the name would be none such", "each character", RenameTest::eachCharacter);
        Expect.holds("the name would be none such", "a character as the last of eight", RenameTest::theLastOfEight);
        Expect.holds("the name would be none such", "dots behind dots are fine", RenameTest::dots);
        Expect.holds("or is there", "beside it", RenameTest::isThere);
        Expect.holds("or is there", "nearly", RenameTest::isNearlyThere);
        Expect.holds("or is there", "in another directory", RenameTest::isElsewhere);
        Expect.holds("or is there", "of 100 characters", RenameTest::isThereOfHundred);
        Expect.holds("it would be longer than 100", "100", RenameTest::hundred);
        Expect.holds("it would be longer than 100", "101", RenameTest::hundredAndOne);
        Expect.holds("of several exceptions that fit the one named first is thrown", RenameTest::argumentsComeFirst);
        Expect.holds("A call that throws changes nothing", RenameTest::nothingChanges);
        Expect.done();
    }

    private static Yard withName(int length) {
        Yard yard = new Yard();
        yard.make(0, Yard.FILE, Yard.repeat('x', length));
        return yard;
    }

    private static void grows() {
        Yard yard = withName(1);
        Expect.same("one more", yard.rename(1, 'g', 1), 2);
        Expect.same("eight more", yard.rename(1, EIGHT, 8), 10);
        Expect.same("three more", yard.rename(1, Yard.word("12345678"), 3), 13);
        Expect.text("name", yard.name(1), "xgabcdefgh123");
        Expect.same("how long", yard.node(1, 2), 13);
        Expect.same("33 and 126", yard.rename(1, Yard.word("!~"), 2), 15);
    }

    private static void ofEachKind() {
        Yard yard = new Yard();
        for (int kind = 0; kind <= 3; kind++) {
            yard.make(0, kind, '0' + kind, 1, 2);
        }
        for (int node = 1; node <= 4; node++) {
            Expect.same("node " + node, yard.rename(node, 'x', 1), 2);
        }
        Expect.text("directory", yard.name(1), "0x");
        Expect.text("hard link", yard.name(4), "3x");
        Expect.same("what is in it lies there still", yard.node(yard.make(1, Yard.FILE, "in"), 1), 1);
        Expect.same("the link's file", yard.node(4, 7), 2);
    }

    private static void bytesBehind() {
        Yard yard = withName(1);
        Expect.same("255 behind", yard.rename(1, 0xffffffffffffff41L, 1), 2);
        Expect.same("47 behind seven", yard.rename(1, 0x2f41414141414141L, 7), 9);
        Expect.text("name", yard.name(1), "xAAAAAAAA");
    }

    private static void theRoot() {
        Yard yard = withName(1);
        Expect.refused(yard, "one", y -> y.rename(0, 'a', 1));
        Expect.refused(yard, "eight", y -> y.rename(0, EIGHT, 8));
        Expect.refused(new Yard(), "the root alone", y -> y.rename(0, 'a', 1));
    }

    private static void noSuchNodes() {
        Yard yard = withName(1);
        for (int node : new int[] {-1, 2, 29, 30, Integer.MIN_VALUE, Integer.MAX_VALUE}) {
            Expect.refused(yard, "node " + node, y -> y.rename(node, 'a', 1));
        }
        yard.make(0, Yard.FILE, "gone");
        yard.remove(2);
        Expect.refused(yard, "one that is gone", y -> y.rename(2, 'a', 1));
    }

    private static void noLengths() {
        Yard yard = withName(20);
        for (int n : new int[] {0, -1, -5, -20, 9, 16, Integer.MIN_VALUE, Integer.MAX_VALUE}) {
            Expect.refused(yard, "n " + n, y -> y.rename(1, EIGHT, n));
        }
    }

    private static void lengths() {
        for (int n = 1; n <= 8; n++) {
            Yard yard = withName(1);
            Expect.same("n " + n, yard.rename(1, EIGHT, n), 1 + n);
            Expect.text("name", yard.name(1), "x" + "abcdefgh".substring(0, n));
        }
    }

    private static void eachCharacter() {
        for (int letter = 0; letter < 256; letter++) {
            Yard yard = withName(1);
            int b = letter;
            if (letter >= 33 && letter <= 126 && letter != 47) {
                Expect.same("character " + letter, yard.rename(1, letter, 1), 2);
                Expect.same("is there", yard.part(1, 0, 1), letter);
            } else {
                Expect.refused(yard, "character " + letter, y -> y.rename(1, b, 1));
            }
        }
    }

    private static void theLastOfEight() {
        for (long letter : new long[] {0, 32, 47, 127, 128, 255}) {
            Expect.refused(withName(1), "character " + letter, y -> y.rename(1, letter << 56 | EIGHT >>> 8, 8));
        }
        for (long letter : new long[] {33, 46, 48, 126}) {
            Expect.same("character " + letter, withName(1).rename(1, letter << 56 | EIGHT >>> 8, 8), 9);
        }
    }

    private static void dots() {
        Yard yard = new Yard();
        yard.make(0, Yard.FILE, "...");
        Expect.same("a fourth", yard.rename(1, '.', 1), 4);
        Expect.same("eight more", yard.rename(1, Yard.word("........"), 8), 12);
        yard.make(0, Yard.FILE, "a");
        Expect.same("two behind a letter", yard.rename(2, Yard.word(".."), 2), 3);
    }

    private static void isThere() {
        for (int kind = 0; kind <= 3; kind++) {
            Yard yard = new Yard();
            yard.make(0, Yard.FILE, "a");
            yard.make(0, kind, "ab", 1);
            Expect.refused(yard, "as one of kind " + kind, y -> y.rename(1, 'b', 1));
            Expect.same("as none", yard.rename(1, 'c', 1), 2);
        }
    }

    private static void isNearlyThere() {
        Yard yard = new Yard();
        yard.make(0, Yard.FILE, "a");
        yard.make(0, Yard.FILE, "abc");
        Expect.same("its beginning", yard.rename(1, 'b', 1), 2);
        Expect.refused(yard, "just it", y -> y.rename(1, 'c', 1));
        Expect.same("longer than it", yard.rename(1, Yard.word("cd"), 2), 4);
        Expect.refused(yard, "the other way round", y -> y.rename(2, 'd', 1));
        Expect.same("another last character", yard.rename(2, 'D', 1), 4);
    }

    private static void isElsewhere() {
        Yard yard = new Yard();
        int dir = yard.make(0, Yard.DIRECTORY, "d");
        int inside = yard.make(dir, Yard.FILE, "a");
        yard.make(0, Yard.FILE, "ab");
        Expect.same("as one in the root", yard.rename(inside, 'b', 1), 2);
        yard.make(dir, Yard.FILE, "da");
        Expect.same("as one in itself", yard.rename(dir, 'a', 1), 2);
    }

    private static void isThereOfHundred() {
        Yard yard = withName(99);
        yard.rename(1, 'y', 1);
        yard.make(0, Yard.FILE, Yard.repeat('x', 99));
        Expect.refused(yard, "alike in all hundred", y -> y.rename(2, 'y', 1));
        Expect.same("another hundredth", yard.rename(2, 'z', 1), 100);
    }

    private static void hundred() {
        Expect.same("99 and 1", withName(99).rename(1, EIGHT, 1), 100);
        Expect.same("92 and 8", withName(92).rename(1, EIGHT, 8), 100);
        Yard yard = withName(97);
        Expect.same("97 and 3", yard.rename(1, EIGHT, 3), 100);
        Expect.text("name", yard.name(1), Yard.repeat('x', 97) + "abc");
        Expect.same("behind it", yard.part(1, 0, 100), Yard.NONE);
    }

    private static void hundredAndOne() {
        Expect.full(withName(100), "100 and 1", y -> y.rename(1, EIGHT, 1));
        Expect.full(withName(99), "99 and 2", y -> y.rename(1, EIGHT, 2));
        Expect.full(withName(93), "93 and 8", y -> y.rename(1, EIGHT, 8));
        Expect.full(withName(100), "100 and 8", y -> y.rename(1, EIGHT, 8));
        Yard yard = withName(99);
        Expect.full(yard, "99 and 2", y -> y.rename(1, EIGHT, 2));
        Expect.same("but 1 is fine still", yard.rename(1, EIGHT, 1), 100);
    }

    private static void argumentsComeFirst() {
        Yard yard = withName(100);
        Expect.refused(yard, "n 9", y -> y.rename(1, EIGHT, 9));
        Expect.refused(yard, "n 0", y -> y.rename(1, EIGHT, 0));
        Expect.refused(yard, "47", y -> y.rename(1, '/', 1));
        Expect.refused(yard, "0 behind others", y -> y.rename(1, EIGHT >>> 8, 8));
        Expect.refused(yard, "the root", y -> y.rename(0, EIGHT, 8));
        Expect.refused(yard, "no node", y -> y.rename(2, EIGHT, 8));
    }

    private static void nothingChanges() {
        Yard yard = withName(98);
        yard.make(0, Yard.FILE, Yard.repeat('x', 99));
        yard.write();
        yard.alter(0, 'y');
        yard.read();
        Expect.full(yard, "too long", y -> y.rename(1, EIGHT, 3));
        Expect.refused(yard, "there", y -> y.rename(1, 'x', 1));
        Expect.refused(yard, "the second is no character", y -> y.rename(1, Yard.word("a/"), 2));
        Expect.refused(yard, "n", y -> y.rename(1, EIGHT, 9));
        Expect.refused(yard, "root", y -> y.rename(0, 'a', 1));
        Expect.same("then", yard.rename(1, 'a', 1), 99);
        Expect.text("name", yard.name(1), Yard.repeat('x', 98) + "a");
    }
}
