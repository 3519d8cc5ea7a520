/** Promise 16. */
public final class PartTest {
    public static void main(String[] args) {
        TarYard yard = new TarYard();
        int dir = Yards.make(yard, 0, Yards.DIRECTORY, "dir");
        int file = Yards.make(yard, dir, Yards.FILE, "file");
        int soft = Yards.make(yard, dir, Yards.SYMBOLIC_LINK, "s");
        int hard = Yards.make(yard, 0, Yards.HARD_LINK, "hardlink", file);
        yard.contents(file, 2000, 255);
        Yards.target(yard, soft, "a/b");
        String[] names = {"", "dir", "file", "s", "hardlink"};
        for (int node = 0; node < names.length; node++) {
            Yards.expectText("name " + node, Yards.name(yard, node), names[node]);
            Expect.same("behind it", yard.part(node, 0, names[node].length()), TarYard.NONE);
            Expect.same("before it", yard.part(node, 0, -1), TarYard.NONE);
        }
        Expect.same("byte 0", yard.part(file, 1, 0), 255);
        Expect.same("byte 1999", yard.part(file, 1, 1999), (255 + 31 * 1999) % 256);
        Yards.expectText("target", Yards.text(yard, soft, 1), "a/b");
        for (int i : new int[] {-1, 2000, 2001, Integer.MIN_VALUE, Integer.MAX_VALUE}) {
            Expect.same("byte " + i, yard.part(file, 1, i), TarYard.NONE);
            Expect.same("character " + i, yard.part(file, 0, i), TarYard.NONE);
        }
        for (int node : new int[] {0, dir, hard}) {
            Expect.same("none of " + node, yard.part(node, 1, 0), TarYard.NONE);
        }
        for (int node : new int[] {-1, 5, 30, Integer.MIN_VALUE, Integer.MAX_VALUE}) {
            Expect.refused("node " + node, () -> yard.part(node, 0, 0));
        }
        for (int what : new int[] {-1, 2, Integer.MIN_VALUE, Integer.MAX_VALUE}) {
            Expect.refused("what " + what, () -> yard.part(file, what, 0));
        }
        Expect.done();
    }
}
