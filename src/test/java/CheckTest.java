/** Promise 12. */
public final class CheckTest {
    public static void main(String[] args) {
        Expect.holds("The CHECK of block b at hand is made anew", "six digits, a zero, 32", CheckTest::madeAnew);
        Expect.holds("as if it were a header", "a block of zeros", CheckTest::zeros);
        Expect.holds("as if it were a header", "a block of contents, all of 255", CheckTest::allOf255);
        Expect.holds("the sum of all 512 bytes, with 32 for each of its own eight", CheckTest::itsOwnEight);
        Expect.holds("the sum of all 512 bytes", "the first and the last", CheckTest::firstAndLast);
        Expect.holds("what it is", "of a header that was written", CheckTest::aWrittenOne);
        Expect.holds("block b", "the first and the last of 20", CheckTest::firstAndLastBlock);
        Expect.holds("there is no such whole block", "less than one", CheckTest::lessThanABlock);
        Expect.holds("there is no such whole block", "behind the last, before the first", CheckTest::noSuchBlocks);
        Expect.holds("there is no such whole block", "a number that wraps round", CheckTest::wrapAround);
        Expect.holds("A call that throws changes nothing", CheckTest::nothingChanges);
        Expect.done();
    }

    private static Yard ofSize(int size) {
        Yard yard = new Yard();
        yard.size(size);
        return yard;
    }

    private static void madeAnew() {
        Yard yard = ofSize(512);
        yard.alter(148, "xxxxxxxx");
        yard.alter(147, 1);
        yard.alter(156, 2);
        Expect.same("check", yard.check(0), 256 + 3);
        Expect.text("bytes 147 to 156", yard.bytes(147, 10), "\1" + "000403\0 \2");
    }

    private static void zeros() {
        Yard yard = ofSize(512);
        Expect.same("check", yard.check(0), 256);
        Expect.text("bytes", yard.bytes(0, 512), Yard.repeat('\0', 148) + "000400\0 " + Yard.repeat('\0', 356));
    }

    private static void allOf255() {
        Yard yard = new Yard();
        yard.make(0, Yard.FILE, "f");
        for (int i = 0; i < 64; i++) {
            yard.fill(1, -1L, 8);
        }
        yard.write();
        Expect.same("check", yard.check(1), 504 * 255 + 256);
        Expect.text("digits", yard.bytes(512 + 148, 8), "373410\0 ");
        Expect.same("before", yard.hand(512 + 147), 255);
        Expect.same("behind", yard.hand(512 + 156), 255);
    }

    private static void itsOwnEight() {
        Yard yard = ofSize(512);
        for (int i = 148; i < 156; i++) {
            yard.alter(i, 255);
        }
        Expect.same("255 each", yard.check(0), 256);
        Expect.same("again", yard.check(0), 256);
    }

    private static void firstAndLast() {
        Yard yard = ofSize(1536);
        yard.alter(511, 100);
        yard.alter(512, 3);
        yard.alter(1023, 5);
        yard.alter(1024, 100);
        Expect.same("check", yard.check(1), 256 + 8);
    }

    private static void aWrittenOne() {
        Yard yard = new Yard();
        yard.make(0, Yard.FILE, "f");
        yard.write();
        String before = yard.state();
        Expect.same("check", yard.check(0), Integer.parseInt(yard.bytes(148, 6), 8));
        Expect.text("all else", yard.state(), before);
    }

    private static void firstAndLastBlock() {
        Yard yard = ofSize(10240);
        Expect.same("the first", yard.check(0), 256);
        Expect.same("the last", yard.check(19), 256);
        Expect.text("its digits", yard.bytes(19 * 512 + 148, 8), "000400\0 ");
        Expect.same("none between", yard.hand(512 + 148), 0);
        Expect.refused(yard, "block 20", y -> y.check(20));
    }

    private static void lessThanABlock() {
        Expect.refused(new Yard(), "no bytes", y -> y.check(0));
        Expect.refused(ofSize(1), "one", y -> y.check(0));
        Expect.refused(ofSize(511), "511", y -> y.check(0));
        Expect.same("512", ofSize(512).check(0), 256);
        Expect.refused(ofSize(1023), "1023", y -> y.check(1));
        Expect.same("1024", ofSize(1024).check(1), 256);
        Expect.refused(ofSize(10239), "10239", y -> y.check(19));
    }

    private static void noSuchBlocks() {
        Yard yard = ofSize(1024);
        for (int b : new int[] {-1, -2, 2, 3, 19, 20, Integer.MIN_VALUE, Integer.MAX_VALUE}) {
            Expect.refused(yard, "block " + b, y -> y.check(b));
        }
    }

    private static void wrapAround() {
        Yard yard = ofSize(1024);
        for (int b : new int[] {1 << 22, 1 << 23, (1 << 23) + 1, -(1 << 23), 1 << 31}) {
            Expect.refused(yard, "block " + b, y -> y.check(b));
        }
    }

    private static void nothingChanges() {
        Yard yard = new Yard();
        yard.make(0, Yard.FILE, "f");
        yard.write();
        yard.alter(0, 'x');
        yard.read();
        Expect.refused(yard, "block 3", y -> y.check(3));
        Expect.refused(yard, "block -1", y -> y.check(-1));
    }
}
