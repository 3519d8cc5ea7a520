/** Promise 5. */
public final class ContentsTest {
    public static void main(String[] args) {
        Expect.holds("A file's contents are so many bytes", ContentsTest::lengths);
        Expect.holds("A file's contents are so many bytes", "in place of others", ContentsTest::inPlaceOfOthers);
        Expect.holds("A file's contents are so many bytes", "of that file alone", ContentsTest::thatFileAlone);
        Expect.holds("byte i of them (seed + 31 i) modulo 256", ContentsTest::bytes);
        Expect.holds("byte i of them (seed + 31 i) modulo 256", "round 256", ContentsTest::wrapAround);
        Expect.holds("it is no file", ContentsTest::noFiles);
        Expect.holds("length is not 0 .. 2000", ContentsTest::noLengths);
        Expect.holds("seed not 0 .. 255", "the first that are not", ContentsTest::noSeeds);
        Expect.holds("seed not 0 .. 255", "the last that are", ContentsTest::seeds);
        Expect.holds("A call that throws changes nothing", ContentsTest::nothingChanges);
        Expect.done();
    }

    private static Yard withFile() {
        Yard yard = new Yard();
        yard.make(0, Yard.FILE, "f");
        return yard;
    }

    private static void lengths() {
        for (int length : new int[] {0, 1, 2, 511, 512, 513, 1999, 2000}) {
            Yard yard = withFile();
            yard.contents(1, length, 9);
            Expect.same("how long", yard.node(1, 6), length);
            Expect.same("the last", yard.part(1, 1, length - 1), length == 0 ? Yard.NONE : (9 + 31 * (length - 1)) % 256);
            Expect.same("behind it", yard.part(1, 1, length), Yard.NONE);
        }
    }

    private static void inPlaceOfOthers() {
        Yard yard = withFile();
        yard.fill(1, "abcdefghijkl");
        yard.contents(1, 2, 'A');
        Expect.text("shorter", yard.body(1), "A`");
        yard.contents(1, 3, 'B');
        Expect.text("longer", yard.body(1), "Ba\u0080");
        yard.contents(1, 0, 255);
        Expect.text("none", yard.body(1), "");
    }

    private static void thatFileAlone() {
        Yard yard = withFile();
        yard.make(0, Yard.FILE, "g");
        yard.make(0, Yard.HARD_LINK, "h", 1);
        yard.contents(2, 3, 3);
        yard.contents(1, 4, 4);
        Expect.same("the other file", yard.node(2, 6), 3);
        Expect.same("its byte", yard.part(2, 1, 0), 3);
        Expect.same("the hard link", yard.node(3, 6), 0);
    }

    private static void bytes() {
        for (int seed : new int[] {0, 77, 255}) {
            Yard yard = withFile();
            yard.contents(1, 2000, seed);
            for (int i = 0; i < 2000; i++) {
                Expect.same("byte " + i, yard.part(1, 1, i), (seed + 31L * i) % 256);
            }
        }
    }

    private static void wrapAround() {
        Yard yard = withFile();
        yard.contents(1, 2, 224);
        Expect.same("224 + 31", yard.part(1, 1, 1), 255);
        yard.contents(1, 2, 225);
        Expect.same("225 + 31", yard.part(1, 1, 1), 0);
        yard.contents(1, 2000, 255);
        Expect.same("255", yard.part(1, 1, 0), 255);
        Expect.same("255 + 31 * 1999", yard.part(1, 1, 1999), 16);
    }

    private static void noFiles() {
        Yard yard = withFile();
        yard.make(0, Yard.DIRECTORY, "d");
        yard.make(0, Yard.SYMBOLIC_LINK, "s");
        yard.make(0, Yard.HARD_LINK, "h", 1);
        for (int node : new int[] {0, 2, 3, 4, 5, 29, 30, -1, Integer.MIN_VALUE, Integer.MAX_VALUE}) {
            Expect.refused(yard, "node " + node, y -> y.contents(node, 1, 1));
            Expect.refused(yard, "none for node " + node, y -> y.contents(node, 0, 0));
        }
    }

    private static void noLengths() {
        for (int length : new int[] {-1, 2001, 2048, Integer.MIN_VALUE, Integer.MAX_VALUE}) {
            Expect.refused(withFile(), "length " + length, y -> y.contents(1, length, 1));
        }
    }

    private static void noSeeds() {
        for (int seed : new int[] {-1, 256, Integer.MIN_VALUE, Integer.MAX_VALUE}) {
            Expect.refused(withFile(), "seed " + seed, y -> y.contents(1, 1, seed));
            Expect.refused(withFile(), "seed of none " + seed, y -> y.contents(1, 0, seed));
        }
    }

    private static void seeds() {
        for (int seed : new int[] {0, 1, 254, 255}) {
            Yard yard = withFile();
            yard.contents(1, 1, seed);
            Expect.same("seed " + seed, yard.part(1, 1, 0), seed);
        }
    }

    private static void nothingChanges() {
        Yard yard = withFile();
        yard.contents(1, 9, 9);
        yard.write();
        yard.alter(0, 'x');
        yard.read();
        Expect.refused(yard, "length", y -> y.contents(1, 2001, 1));
        Expect.refused(yard, "below 0", y -> y.contents(1, -1, 1));
        Expect.refused(yard, "seed", y -> y.contents(1, 5, 256));
        Expect.refused(yard, "root", y -> y.contents(0, 5, 5));
        Expect.same("how long", yard.node(1, 6), 9);
    }
}
