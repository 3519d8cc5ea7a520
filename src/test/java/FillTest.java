/** Promise 4. */
public final class FillTest {
    private static final long EIGHT = Yard.word("abcdefgh");

    public static void main(String[] args) {
        Expect.holds("A file's contents, or a symbolic link's target, gets n bytes more: how long it is", FillTest::grows);
        Expect.holds("a file CONTENTS of 0 to 2000 bytes", "each byte", FillTest::eachByteOfAFile);
        Expect.holds("gets n bytes more", "bytes behind them are not looked at", FillTest::bytesBehind);
        Expect.holds("it is no such node", FillTest::noSuchNodes);
        Expect.holds("n is not 0 .. 8", "the first that are not", FillTest::noLengths);
        Expect.holds("n is not 0 .. 8", "the last that are", FillTest::lengths);
        Expect.holds("n is not 0 .. 8", "nothing", FillTest::nothing);
        Expect.holds("a character of a target is none such", "each character", FillTest::eachCharacter);
        Expect.holds("a character of a target is none such", "as the last of eight", FillTest::theLastOfEight);
        Expect.holds("it would be too long", "a file of 2000", FillTest::fileOf2000);
        Expect.holds("it would be too long", "a file of 2001", FillTest::fileOf2001);
        Expect.holds("a symbolic link a TARGET of 0 to 100 characters 33 .. 126", FillTest::targets);
        Expect.holds("it would be too long", "a target of 100", FillTest::targetOf100);
        Expect.holds("it would be too long", "a target of 101", FillTest::targetOf101);
        Expect.holds("it would be too long", "nothing to a full one", FillTest::nothingToAFullOne);
        Expect.holds("of several exceptions that fit the one named first is thrown", FillTest::argumentsComeFirst);
        Expect.holds("A call that throws changes nothing", FillTest::nothingChanges);
        Expect.holds("A call that throws changes nothing", "of what a later call answers", FillTest::laterCalls);
        Expect.holds("gets n bytes more", "behind contents that were longer once", FillTest::behindShorterContents);
        Expect.done();
    }

    private static Yard withFile(int length) {
        Yard yard = new Yard();
        yard.make(0, Yard.FILE, "f");
        yard.contents(1, length, 7);
        return yard;
    }

    private static Yard withTarget(int length) {
        Yard yard = new Yard();
        yard.make(0, Yard.SYMBOLIC_LINK, "s");
        yard.fill(1, Yard.repeat('t', length));
        return yard;
    }

    private static void grows() {
        Yard yard = withFile(0);
        Expect.same("eight", yard.fill(1, 0xff00010203040506L, 8), 8);
        Expect.same("two", yard.fill(1, 0x0102L, 2), 10);
        Expect.text("bytes", yard.body(1), "\u0006\u0005\u0004\u0003\u0002\u0001\u0000\u00ff\u0002\u0001");
        Expect.same("how long", yard.node(1, 6), 10);
        Yard link = withTarget(0);
        Expect.same("eight", link.fill(1, Yard.word("/../a//!"), 8), 8);
        Expect.same("one", link.fill(1, '~', 1), 9);
        Expect.text("target", link.body(1), "/../a//!~");
    }

    private static void eachByteOfAFile() {
        Yard yard = withFile(0);
        for (int b = 0; b < 256; b++) {
            yard.fill(1, b, 1);
        }
        for (int b = 0; b < 256; b++) {
            Expect.same("byte " + b, yard.part(1, 1, b), b);
        }
    }

    private static void bytesBehind() {
        Yard yard = withFile(0);
        yard.fill(1, -1L, 1);
        yard.fill(1, 0x4142L, 1);
        Expect.text("bytes", yard.body(1), "\u00ffB");
        Yard link = withTarget(0);
        Expect.same("0 behind", link.fill(1, 'a', 1), 1);
        Expect.same("255 behind", link.fill(1, 0xffffffffffffff41L, 1), 2);
        Expect.same("32 behind seven", link.fill(1, 0x2041414141414141L, 7), 9);
        Expect.text("target", link.body(1), "aAAAAAAAA");
    }

    private static void noSuchNodes() {
        Yard yard = new Yard();
        yard.make(0, Yard.FILE, "f");
        yard.make(0, Yard.DIRECTORY, "d");
        yard.make(0, Yard.HARD_LINK, "h", 1);
        for (int node : new int[] {0, 2, 3, 4, 29, 30, -1, Integer.MIN_VALUE, Integer.MAX_VALUE}) {
            Expect.refused(yard, "node " + node, y -> y.fill(node, 'x', 1));
            Expect.refused(yard, "nothing to node " + node, y -> y.fill(node, 'x', 0));
        }
    }

    private static void noLengths() {
        for (int n : new int[] {-1, 9, 16, Integer.MIN_VALUE, Integer.MAX_VALUE}) {
            Expect.refused(withFile(20), "a file, n " + n, y -> y.fill(1, EIGHT, n));
            Expect.refused(withTarget(20), "a target, n " + n, y -> y.fill(1, EIGHT, n));
        }
    }

    private static void lengths() {
        for (int n = 0; n <= 8; n++) {
            Expect.same("a file, n " + n, withFile(3).fill(1, EIGHT, n), 3 + n);
            Yard link = withTarget(1);
            Expect.same("a target, n " + n, link.fill(1, EIGHT, n), 1 + n);
            Expect.text("target", link.body(1), "t" + "abcdefgh".substring(0, n));
        }
    }

    private static void nothing() {
        Expect.same("to a new file", withFile(0).fill(1, -1L, 0), 0);
        Expect.same("to a file", withFile(5).fill(1, -1L, 0), 5);
        Expect.same("to a new link, of no characters", withTarget(0).fill(1, 0, 0), 0);
        Yard link = withTarget(5);
        Expect.same("to a link, of no characters", link.fill(1, -1L, 0), 5);
        Expect.text("target", link.body(1), "ttttt");
    }

    private static void eachCharacter() {
        for (int letter = 0; letter < 256; letter++) {
            Yard yard = withTarget(1);
            int b = letter;
            if (letter >= 33 && letter <= 126) {
                Expect.same("character " + letter, yard.fill(1, letter, 1), 2);
                Expect.same("is there", yard.part(1, 1, 1), letter);
            } else {
                Expect.refused(yard, "character " + letter, y -> y.fill(1, b, 1));
            }
        }
    }

    private static void theLastOfEight() {
        for (long letter : new long[] {0, 32, 127, 128, 255}) {
            Expect.refused(withTarget(1), "character " + letter, y -> y.fill(1, letter << 56 | EIGHT >>> 8, 8));
        }
        for (long letter : new long[] {33, 46, 47, 126}) {
            Expect.same("character " + letter, withTarget(1).fill(1, letter << 56 | EIGHT >>> 8, 8), 9);
        }
    }

    private static void fileOf2000() {
        Yard yard = withFile(1995);
        Expect.same("1995 and 5", yard.fill(1, 0x0900000007L, 5), 2000);
        Expect.same("byte 1994", yard.part(1, 1, 1994), (7 + 31 * 1994) % 256);
        Expect.same("byte 1995", yard.part(1, 1, 1995), 7);
        Expect.same("byte 1999", yard.part(1, 1, 1999), 9);
        Expect.same("byte 2000", yard.part(1, 1, 2000), Yard.NONE);
        Expect.same("1999 and 1", withFile(1999).fill(1, 0, 1), 2000);
        Expect.same("1992 and 8", withFile(1992).fill(1, 0, 8), 2000);
    }

    private static void fileOf2001() {
        Expect.full(withFile(2000), "2000 and 1", y -> y.fill(1, 0, 1));
        Expect.full(withFile(1999), "1999 and 2", y -> y.fill(1, 0, 2));
        Expect.full(withFile(1993), "1993 and 8", y -> y.fill(1, 0, 8));
        Expect.full(withFile(2000), "2000 and 8", y -> y.fill(1, 0, 8));
    }

    private static void targets() {
        Yard yard = withTarget(0);
        Expect.same("of 0", yard.node(1, 6), 0);
        Expect.same("of 0, its first", yard.part(1, 1, 0), Yard.NONE);
        for (int letter = 33; letter <= 126; letter++) {
            yard.fill(1, letter, 1);
        }
        yard.fill(1, "......");
        Expect.same("of 100", yard.node(1, 6), 100);
        Expect.same("its first", yard.part(1, 1, 0), 33);
        Expect.same("the last of these characters", yard.part(1, 1, 93), 126);
        Expect.same("its last", yard.part(1, 1, 99), '.');
    }

    private static void targetOf100() {
        Expect.same("99 and 1", withTarget(99).fill(1, EIGHT, 1), 100);
        Yard yard = withTarget(92);
        Expect.same("92 and 8", yard.fill(1, EIGHT, 8), 100);
        Expect.text("target", yard.body(1), Yard.repeat('t', 92) + "abcdefgh");
    }

    private static void targetOf101() {
        Expect.full(withTarget(100), "100 and 1", y -> y.fill(1, EIGHT, 1));
        Expect.full(withTarget(99), "99 and 2", y -> y.fill(1, EIGHT, 2));
        Expect.full(withTarget(93), "93 and 8", y -> y.fill(1, EIGHT, 8));
        Expect.full(withTarget(100), "100 and 8", y -> y.fill(1, EIGHT, 8));
    }

    private static void nothingToAFullOne() {
        Expect.same("a file", withFile(2000).fill(1, EIGHT, 0), 2000);
        Expect.same("a target", withTarget(100).fill(1, EIGHT, 0), 100);
    }

    private static void argumentsComeFirst() {
        for (int n : new int[] {-1, 9, Integer.MIN_VALUE, Integer.MAX_VALUE}) {
            Expect.refused(withFile(2000), "a file, n " + n, y -> y.fill(1, EIGHT, n));
            Expect.refused(withTarget(100), "a target, n " + n, y -> y.fill(1, EIGHT, n));
        }
        Expect.refused(withTarget(100), "a blank", y -> y.fill(1, ' ', 1));
        Expect.refused(withTarget(99), "a blank behind another one", y -> y.fill(1, Yard.word("a "), 2));
        Expect.refused(withTarget(99), "a blank before another one", y -> y.fill(1, Yard.word(" a"), 2));
    }

    private static void nothingChanges() {
        Yard yard = withTarget(95);
        yard.make(0, Yard.FILE, "f");
        yard.contents(2, 1996, 1);
        yard.write();
        yard.alter(0, 'x');
        yard.read();
        Expect.full(yard, "too long a target", y -> y.fill(1, EIGHT, 6));
        Expect.full(yard, "too long contents", y -> y.fill(2, EIGHT, 5));
        Expect.refused(yard, "no character", y -> y.fill(1, Yard.word("abc\u007f"), 4));
        Expect.refused(yard, "n", y -> y.fill(2, EIGHT, 9));
        Expect.refused(yard, "root", y -> y.fill(0, EIGHT, 1));
        Expect.same("target then", yard.fill(1, EIGHT, 5), 100);
        Expect.same("contents then", yard.fill(2, EIGHT, 4), 2000);
    }

    private static void laterCalls() {
        Yard yard = withTarget(1);
        yard.make(0, Yard.FILE, "f");
        Expect.refused(yard, "a blank is no name", y -> y.make(0, Yard.FILE, ' ', 1, 0));
        Expect.same("a refused name is not a target's", yard.fill(1, 'x', 1), 2);
        yard.fill(2, 0, 8);
        Expect.same("a file's bytes are not a target's", yard.fill(1, Yard.word("ab"), 2), 4);
        Expect.refused(yard, "a blank is no target", y -> y.fill(1, ' ', 1));
        Expect.same("nor is it a name's", yard.make(0, Yard.FILE, "g"), 3);
        Expect.same("nor a longer name's", yard.rename(3, 'h', 1), 2);
    }

    private static void behindShorterContents() {
        Yard yard = withFile(2000);
        yard.contents(1, 3, 7);
        Expect.same("how long", yard.fill(1, 0, 4), 7);
        Expect.text("bytes", yard.body(1), "\u0007\u0026\u0045\u0000\u0000\u0000\u0000");
    }
}
