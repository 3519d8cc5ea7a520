/** Promise 5. */
public final class ContentsTest {
    public static void main(String[] args) {
        bytes();
        wrongArguments();
        Expect.done();
    }

    private static void bytes() {
        TarYard yard = new TarYard();
        int file = Yards.make(yard, 0, Yards.FILE, "f");
        int other = Yards.make(yard, 0, Yards.FILE, "g");
        for (int length : new int[] {5, 2000, 0, 1, 513}) {
            for (int seed : new int[] {0, 255, 77}) {
                yard.contents(file, length, seed);
                Expect.same("length", yard.node(file, 6), length);
                for (int i = 0; i < length; i++) {
                    Expect.same("byte " + i, yard.part(file, 1, i), (seed + 31L * i) % 256);
                }
                Expect.same("behind", yard.part(file, 1, length), TarYard.NONE);
            }
        }
        Expect.same("the other file", yard.node(other, 6), 0);
    }

    private static void wrongArguments() {
        TarYard yard = new TarYard();
        int file = Yards.make(yard, 0, Yards.FILE, "f");
        int dir = Yards.make(yard, 0, Yards.DIRECTORY, "d");
        int soft = Yards.make(yard, 0, Yards.SYMBOLIC_LINK, "s");
        int hard = Yards.make(yard, 0, Yards.HARD_LINK, "h", file);
        yard.contents(file, 9, 9);
        for (int node : new int[] {0, dir, soft, hard, 5, -1, Integer.MIN_VALUE, Integer.MAX_VALUE}) {
            Expect.refused("node " + node, () -> yard.contents(node, 1, 1));
        }
        for (int length : new int[] {-1, 2001, Integer.MIN_VALUE, Integer.MAX_VALUE}) {
            Expect.refused("length " + length, () -> yard.contents(file, length, 1));
        }
        for (int seed : new int[] {-1, 256, Integer.MIN_VALUE, Integer.MAX_VALUE}) {
            Expect.refused("seed " + seed, () -> yard.contents(file, 1, seed));
        }
        Expect.same("length", yard.node(file, 6), 9);
        Expect.same("byte 8", yard.part(file, 1, 8), (9 + 31 * 8) % 256);
    }
}
