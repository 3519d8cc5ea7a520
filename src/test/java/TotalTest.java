/** Promise 17. */
public final class TotalTest {
    public static void main(String[] args) {
        TarYard yard = new TarYard();
        int dir = Yards.make(yard, 0, Yards.DIRECTORY, "d");
        Expect.same("a directory's path ends in 47", yard.total(2), 2);
        int file = Yards.make(yard, dir, Yards.FILE, "f");
        Expect.same("d/f", yard.total(2), 3);
        Yards.make(yard, 0, Yards.SYMBOLIC_LINK, "abc");
        Expect.same("as long", yard.total(2), 3);
        int hard = Yards.make(yard, dir, Yards.HARD_LINK, "abc", file);
        Expect.same("d/abc", yard.total(2), 5);
        Expect.same("nodes", yard.total(0), 5);
        Expect.same("bytes", yard.total(1), 0);
        yard.write();
        Expect.same("bytes written", yard.total(1), 6 * 512);
        yard.size(77);
        Expect.same("bytes cut", yard.total(1), 77);
        yard.remove(hard);
        Expect.same("nodes", yard.total(0), 4);
        Expect.same("shorter again", yard.total(2), 3);
        for (int what : new int[] {-1, 3, Integer.MIN_VALUE, Integer.MAX_VALUE}) {
            Expect.refused("what " + what, () -> yard.total(what));
        }
        deepest();
        Expect.done();
    }

    private static void deepest() {
        TarYard yard = new TarYard();
        for (int i = 0; i < 29; i++) {
            Yards.make(yard, i, Yards.DIRECTORY, Yards.repeat('a', 100));
        }
        Expect.same("29 names of 100", yard.total(2), 29 * 101);
        Expect.unsupported("far too long", yard::write);
        Expect.same("all gone", yard.remove(1), 29);
        Expect.same("the root alone", yard.total(2), 0);
    }
}
