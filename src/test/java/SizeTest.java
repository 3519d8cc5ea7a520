/** Promise 13. */
public final class SizeTest {
    public static void main(String[] args) {
        Expect.holds("The bytes at hand are cut", SizeTest::cut);
        Expect.holds("or get zeros", SizeTest::getZeros);
        Expect.holds("or get zeros", "where others were before they were cut", SizeTest::zerosNotOldBytes);
        Expect.holds("so that there are n", "as many as there were", SizeTest::asMany);
        Expect.holds("n is not 0 .. 10240", "the last that are", SizeTest::sizes);
        Expect.holds("n is not 0 .. 10240", "the first that are not", SizeTest::noSizes);
        Expect.holds("A call that throws changes nothing", SizeTest::nothingChanges);
        Expect.done();
    }

    /** So many bytes, the first and the last of them not zero. */
    private static Yard ofSize(int size) {
        Yard yard = new Yard();
        yard.size(size);
        yard.alter(0, 200);
        yard.alter(size - 1, 201);
        return yard;
    }

    private static void cut() {
        Yard yard = ofSize(600);
        yard.size(599);
        Expect.same("bytes", yard.total(1), 599);
        Expect.same("behind", yard.hand(599), Yard.NONE);
        Expect.same("the first", yard.hand(0), 200);
        yard.size(1);
        Expect.same("one", yard.total(1), 1);
        Expect.same("it", yard.hand(0), 200);
        yard.size(0);
        Expect.same("none", yard.total(1), 0);
        Expect.same("not it", yard.hand(0), Yard.NONE);
    }

    private static void getZeros() {
        Yard yard = ofSize(2);
        yard.size(3);
        Expect.text("one more", yard.bytes(0, 3), "\u00c8\u00c9\0");
        Expect.same("behind it", yard.hand(3), Yard.NONE);
        yard.size(10240);
        Expect.text("all", yard.bytes(0, 10240), "\u00c8\u00c9" + Yard.repeat('\0', 10238));
        Expect.same("behind all", yard.hand(10240), Yard.NONE);
    }

    private static void zerosNotOldBytes() {
        Yard yard = ofSize(4);
        yard.size(3);
        yard.size(4);
        Expect.text("one", yard.bytes(0, 4), "\u00c8\0\0\0");
        Yard most = ofSize(10240);
        most.size(0);
        most.size(10240);
        Expect.text("all", most.bytes(0, 10240), Yard.repeat('\0', 10240));
        Yard written = new Yard();
        written.make(0, Yard.FILE, "f");
        written.write();
        written.size(100);
        written.size(512);
        Expect.text("what was written", written.bytes(0, 512), "f" + Yard.repeat('\0', 511));
    }

    private static void asMany() {
        Yard yard = ofSize(700);
        String before = yard.state();
        yard.size(700);
        Expect.text("all", yard.state(), before);
        Yard none = new Yard();
        none.size(0);
        Expect.same("none", none.total(1), 0);
    }

    private static void sizes() {
        for (int n : new int[] {0, 1, 511, 512, 513, 10239, 10240}) {
            Yard yard = new Yard();
            yard.size(n);
            Expect.same("bytes", yard.total(1), n);
            Expect.same("the last", yard.hand(n - 1), n == 0 ? Yard.NONE : 0);
            Expect.same("behind it", yard.hand(n), Yard.NONE);
        }
    }

    private static void noSizes() {
        for (int n : new int[] {-1, -512, 10241, 10752, Integer.MIN_VALUE, Integer.MAX_VALUE}) {
            Expect.refused(ofSize(600), "size " + n, y -> y.size(n));
            Expect.refused(new Yard(), "size " + n + " of none", y -> y.size(n));
        }
    }

    private static void nothingChanges() {
        Yard yard = ofSize(10240);
        yard.make(0, Yard.FILE, "f");
        yard.read();
        Expect.refused(yard, "more than the most", y -> y.size(10241));
        Expect.refused(yard, "less than none", y -> y.size(-1));
    }
}
