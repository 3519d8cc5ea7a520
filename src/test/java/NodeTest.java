/** Promise 15. */
public final class NodeTest {
    public static void main(String[] args) {
        TarYard yard = new TarYard();
        int dir = Yards.make(yard, 0, Yards.DIRECTORY, "dir");
        int file = Yards.make(yard, dir, Yards.FILE, "file");
        int soft = Yards.make(yard, dir, Yards.SYMBOLIC_LINK, "s");
        int hard = Yards.make(yard, 0, Yards.HARD_LINK, "hardlink", file);
        yard.contents(file, 2000, 0);
        Yards.target(yard, soft, "abc");
        yard.set(dir, 1, 2, 3);
        yard.set(file, 4, 5, 6);
        yard.set(soft, 7, 8, 9);
        yard.set(hard, 10, 11, 12);
        int[][] due = {
            {0, -1, 0, 0, 0, 0, 0, -1},
            {0, 0, 3, 1, 2, 3, 0, -1},
            {1, 1, 4, 4, 5, 6, 2000, -1},
            {2, 1, 1, 7, 8, 9, 3, -1},
            {3, 0, 8, 10, 11, 12, 0, 2}};
        for (int node = 0; node < due.length; node++) {
            for (int what = 0; what < 8; what++) {
                Expect.same("node(" + node + ", " + what + ")", yard.node(node, what), due[node][what]);
            }
        }
        for (int node : new int[] {-1, 5, 30, Integer.MIN_VALUE, Integer.MAX_VALUE}) {
            Expect.refused("node " + node, () -> yard.node(node, 0));
        }
        for (int what : new int[] {-1, 8, Integer.MIN_VALUE, Integer.MAX_VALUE}) {
            Expect.refused("what " + what, () -> yard.node(0, what));
        }
        Expect.done();
    }
}
