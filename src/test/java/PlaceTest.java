/** Promise 10. */
public final class PlaceTest {
    public static void main(String[] args) {
        TarYard yard = new TarYard();
        Expect.same("no read yet", yard.place(), TarYard.NONE);
        int file = Yards.make(yard, 0, Yards.FILE, "f");
        Yards.make(yard, 0, Yards.FILE, "g");
        yard.contents(file, 600, 1);
        yard.write();
        Expect.same("writing is no reading", yard.place(), TarYard.NONE);
        yard.read();
        Expect.same("no fault", yard.place(), TarYard.NONE);
        yard.alter(3 * 512, 'x');
        Expect.same("altering is no reading", yard.place(), TarYard.NONE);
        Expect.same("fault", yard.read(), -3);
        Expect.same("behind contents of two blocks", yard.place(), 3);
        yard.write();
        Yards.make(yard, 0, Yards.FILE, "h");
        Expect.same("stays until the next read", yard.place(), 3);
        yard.alter(0, 'x');
        yard.read();
        Expect.same("the latest", yard.place(), 0);
        yard.write();
        yard.read();
        Expect.same("none again", yard.place(), TarYard.NONE);
        yard.alter(1024 + 511, 1);
        Expect.same("behind contents", yard.read(), -11);
        Expect.same("the header's block, not that of the contents", yard.place(), 0);
        Expect.done();
    }
}
