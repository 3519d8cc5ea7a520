/** Promise 11. */
public final class AlterTest {
    public static void main(String[] args) {
        TarYard yard = new TarYard();
        Expect.refused("no bytes", () -> yard.alter(0, 0));
        yard.size(700);
        Expect.same("first", yard.alter(0, 255), 0);
        Expect.same("again", yard.alter(0, 128), 255);
        Expect.same("last", yard.alter(699, 1), 0);
        Expect.same("last again", yard.alter(699, 0), 1);
        Expect.same("the same", yard.alter(0, 128), 128);
        Expect.same("beside it", yard.hand(1), 0);
        for (int i : new int[] {-1, 700, 1023, 10239, 10240, Integer.MIN_VALUE, Integer.MAX_VALUE}) {
            Expect.refused("byte " + i, () -> yard.alter(i, 1));
        }
        for (int b : new int[] {-1, 256, Integer.MIN_VALUE, Integer.MAX_VALUE}) {
            Expect.refused("becomes " + b, () -> yard.alter(0, b));
        }
        Expect.same("stays", yard.hand(0), 128);
        Expect.same("bytes", yard.total(1), 700);
        theTreeIsApart();
        Expect.done();
    }

    private static void theTreeIsApart() {
        TarYard yard = new TarYard();
        int file = Yards.make(yard, 0, Yards.FILE, "f");
        yard.contents(file, 2, 'x');
        yard.write();
        yard.read();
        yard.alter(0, 'g');
        yard.alter(512, 'y');
        Yards.expectText("name", Yards.name(yard, 1), "f");
        Expect.same("byte", yard.part(1, 1, 0), 'x');
    }
}
