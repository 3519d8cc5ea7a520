/** Promise 14. */
public final class HandTest {
    public static void main(String[] args) {
        Expect.holds("Byte i of those at hand, 0 .. 255", HandTest::eachByte);
        Expect.holds("Byte i of those at hand", "the first and the last", HandTest::firstAndLast);
        Expect.holds("NONE if there is none", "no bytes at hand", HandTest::noBytes);
        Expect.holds("NONE if there is none", "outside of those at hand", HandTest::outside);
        Expect.holds("NONE if there is none", "cut off", HandTest::cutOff);
        Expect.done();
    }

    private static final int[] FAR = {-1, -2, -512, 10240, 10241, Integer.MIN_VALUE, Integer.MAX_VALUE};

    private static void eachByte() {
        Yard yard = new Yard();
        yard.size(256);
        for (int i = 0; i < 256; i++) {
            yard.alter(i, i);
        }
        for (int i = 0; i < 256; i++) {
            Expect.same("hand(" + i + ")", yard.hand(i), i);
        }
    }

    private static void firstAndLast() {
        for (int size : new int[] {1, 2, 512, 10240}) {
            Yard yard = new Yard();
            yard.size(size);
            yard.alter(size - 1, 255);
            yard.alter(0, 254);
            Expect.same("the first", yard.hand(0), 254);
            Expect.same("the last", yard.hand(size - 1), size == 1 ? 254 : 255);
            Expect.same("before", yard.hand(-1), Yard.NONE);
            Expect.same("behind", yard.hand(size), Yard.NONE);
        }
    }

    private static void noBytes() {
        Yard yard = new Yard();
        Expect.same("hand(0)", yard.hand(0), Yard.NONE);
        for (int i : FAR) {
            Expect.same("hand(" + i + ")", yard.hand(i), Yard.NONE);
        }
    }

    private static void outside() {
        Yard yard = new Yard();
        yard.size(10240);
        yard.alter(0, 1);
        for (int i : FAR) {
            Expect.same("hand(" + i + ")", yard.hand(i), Yard.NONE);
        }
        yard.size(700);
        for (int i : new int[] {700, 701, 1023, 1024, 10239}) {
            Expect.same("hand(" + i + ")", yard.hand(i), Yard.NONE);
        }
    }

    private static void cutOff() {
        Yard yard = new Yard();
        yard.size(10);
        yard.alter(9, 7);
        yard.size(9);
        Expect.same("the last that was", yard.hand(9), Yard.NONE);
        Expect.same("the last that is", yard.hand(8), 0);
    }
}
