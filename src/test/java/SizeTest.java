/** Promise 13. */
public final class SizeTest {
    public static void main(String[] args) {
        TarYard yard = new TarYard();
        yard.size(3);
        Expect.same("bytes", yard.total(1), 3);
        for (int i = 0; i < 3; i++) {
            Expect.same("zero", yard.alter(i, 200 + i), 0);
        }
        yard.size(2);
        Expect.same("cut", yard.hand(2), TarYard.NONE);
        yard.size(4);
        int[] bytes = {200, 201, 0, 0, TarYard.NONE};
        for (int i = 0; i < bytes.length; i++) {
            Expect.same("hand(" + i + ")", yard.hand(i), bytes[i]);
        }
        yard.size(10240);
        Expect.same("most", yard.total(1), 10240);
        Expect.same("first", yard.hand(0), 200);
        Expect.same("last", yard.alter(10239, 9), 0);
        for (int n : new int[] {-1, 10241, Integer.MIN_VALUE, Integer.MAX_VALUE}) {
            Expect.refused("size " + n, () -> yard.size(n));
        }
        Expect.same("stays", yard.hand(10239), 9);
        yard.size(0);
        Expect.same("none", yard.total(1), 0);
        yard.size(10240);
        for (int i = 0; i < 10240; i++) {
            Expect.same("hand(" + i + ")", yard.hand(i), 0);
        }
        Expect.done();
    }
}
