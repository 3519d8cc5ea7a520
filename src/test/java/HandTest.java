/** Promise 14. */
public final class HandTest {
    public static void main(String[] args) {
        TarYard yard = new TarYard();
        for (int i : new int[] {0, -1, 1, 10240, Integer.MIN_VALUE, Integer.MAX_VALUE}) {
            Expect.same("without bytes " + i, yard.hand(i), TarYard.NONE);
        }
        yard.size(256);
        for (int i = 0; i < 256; i++) {
            yard.alter(i, i);
        }
        for (int i = 0; i < 256; i++) {
            Expect.same("hand(" + i + ")", yard.hand(i), i);
        }
        for (int i : new int[] {-1, -256, 256, 257, 511, 10240, Integer.MIN_VALUE, Integer.MAX_VALUE}) {
            Expect.same("hand(" + i + ")", yard.hand(i), TarYard.NONE);
        }
        Expect.done();
    }
}
