/** Promise 11. */
public final class AlterTest {
    public static void main(String[] args) {
        Expect.holds("Byte i of those at hand becomes another one: what it was", AlterTest::whatItWas);
        Expect.holds("Byte i of those at hand", "the first and the last", AlterTest::firstAndLast);
        Expect.holds("Byte i of those at hand", "no others", AlterTest::noOthers);
        Expect.holds("IllegalArgumentException", "there is no byte i", AlterTest::noSuchBytes);
        Expect.holds("also if b is not 0 .. 255", "the first that are not", AlterTest::noBytes);
        Expect.holds("also if b is not 0 .. 255", "each that is", AlterTest::eachByte);
        Expect.holds("A call that throws changes nothing", AlterTest::nothingChanges);
        Expect.done();
    }

    private static Yard ofSize(int size) {
        Yard yard = new Yard();
        yard.size(size);
        return yard;
    }

    private static void whatItWas() {
        Yard yard = ofSize(700);
        Expect.same("zero", yard.alter(5, 255), 0);
        Expect.same("255", yard.alter(5, 128), 255);
        Expect.same("128", yard.alter(5, 128), 128);
        Expect.same("again", yard.alter(5, 0), 128);
        Expect.same("is", yard.hand(5), 0);
    }

    private static void firstAndLast() {
        for (int size : new int[] {1, 512, 10240}) {
            Yard yard = ofSize(size);
            yard.alter(0, 9);
            Expect.same("the last", yard.alter(size - 1, 7), size == 1 ? 9 : 0);
            Expect.same("is", yard.hand(size - 1), 7);
            Expect.refused(yard, "behind it", y -> y.alter(size, 7));
            Expect.refused(yard, "before the first", y -> y.alter(-1, 7));
        }
    }

    private static void noOthers() {
        Yard yard = ofSize(3);
        yard.alter(1, 200);
        Expect.text("bytes", yard.bytes(0, 3), "\0\u00c8\0");
        Expect.same("how many", yard.total(1), 3);
    }

    private static void noSuchBytes() {
        Expect.refused(new Yard(), "none at hand", y -> y.alter(0, 0));
        Yard yard = ofSize(700);
        for (int i : new int[] {-1, -700, 700, 701, 1023, 10239, 10240, Integer.MIN_VALUE, Integer.MAX_VALUE}) {
            Expect.refused(yard, "byte " + i, y -> y.alter(i, 1));
        }
        yard.size(0);
        Expect.refused(yard, "none at hand any more", y -> y.alter(0, 0));
    }

    private static void noBytes() {
        Yard yard = ofSize(1);
        for (int b : new int[] {-1, -128, 256, 257, Integer.MIN_VALUE, Integer.MAX_VALUE}) {
            Expect.refused(yard, "becomes " + b, y -> y.alter(0, b));
        }
    }

    private static void eachByte() {
        Yard yard = ofSize(256);
        for (int b = 0; b < 256; b++) {
            Expect.same("was", yard.alter(b, b), 0);
        }
        for (int b = 0; b < 256; b++) {
            Expect.same("is", yard.hand(b), b);
        }
    }

    private static void nothingChanges() {
        Yard yard = new Yard();
        yard.make(0, Yard.FILE, "f");
        yard.write();
        yard.alter(0, 'x');
        yard.read();
        Expect.refused(yard, "byte", y -> y.alter(1536, 1));
        Expect.refused(yard, "b", y -> y.alter(0, 256));
        Expect.refused(yard, "both", y -> y.alter(-1, -1));
    }
}
