/** Promise 12. */
public final class CheckTest {
    public static void main(String[] args) {
        TarYard yard = new TarYard();
        Expect.refused("no bytes", () -> yard.check(0));
        yard.size(1023);
        Expect.same("zeros", yard.check(0), 256);
        Yards.expectText("digits", Yards.atHand(yard, 148, 8), "000400");
        Expect.same("zero", yard.hand(154), 0);
        Expect.same("32", yard.hand(155), 32);
        Expect.same("behind", yard.hand(156), 0);
        Expect.same("before", yard.hand(147), 0);
        Expect.same("its own bytes do not count", yard.check(0), 256);
        for (int b : new int[] {1, 2, -1, 20, Integer.MIN_VALUE, Integer.MAX_VALUE, 1 << 23, 1 << 22}) {
            Expect.refused("block " + b, () -> yard.check(b));
        }
        yard.size(1024);
        for (int i = 512; i < 1024; i++) {
            yard.alter(i, 255);
        }
        Expect.same("all 255", yard.check(1), 504 * 255 + 256);
        Yards.expectText("digits of the most", Yards.atHand(yard, 512 + 148, 8), "373410");
        Expect.same("the other block", yard.check(0), 256);
        aWrittenOneStays();
        Expect.done();
    }

    private static void aWrittenOneStays() {
        TarYard yard = new TarYard();
        Yards.make(yard, 0, Yards.FILE, "f");
        yard.write();
        String before = Yards.state(yard);
        Expect.same("check", yard.check(0), Integer.parseInt(Yards.atHand(yard, 148, 6), 8));
        Yards.expectText("state", Yards.state(yard), before);
    }
}
