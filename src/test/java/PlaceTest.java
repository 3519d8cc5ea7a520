/** Promise 10. */
public final class PlaceTest {
    public static void main(String[] args) {
        Expect.holds("or there was none", PlaceTest::noReadYet);
        Expect.holds("The block of the latest FAULT's header (from 0 on)", "the first block", PlaceTest::theFirstBlock);
        Expect.holds("The block of the latest FAULT's header", "behind contents", PlaceTest::behindContents);
        Expect.holds("The block of the latest FAULT's header", "not that of its contents", PlaceTest::notThatOfContents);
        Expect.holds("The block of the latest FAULT's header", "the last block and the one behind it", PlaceTest::theLastBlock);
        Expect.holds("The block of the latest FAULT's header", "of several reads", PlaceTest::theLatest);
        Expect.holds("NONE if the latest read() had none", PlaceTest::theLatestHadNone);
        Expect.holds("The block of the latest FAULT's header", "no other call changes it", PlaceTest::otherCalls);
        Expect.done();
    }

    /** A file a of 600 bytes in blocks 0 to 2, a file b in block 3. */
    private static Yard twoFiles() {
        Yard yard = new Yard();
        yard.make(0, Yard.FILE, "a");
        yard.make(0, Yard.FILE, "b");
        yard.contents(1, 600, 1);
        yard.write();
        return yard;
    }

    private static void noReadYet() {
        Yard yard = new Yard();
        Expect.same("a new object", yard.place(), Yard.NONE);
        yard.make(0, Yard.FILE, "f");
        yard.write();
        yard.alter(0, 'x');
        Expect.same("writing and altering are no reading", yard.place(), Yard.NONE);
    }

    private static void theFirstBlock() {
        Yard yard = twoFiles();
        yard.alter(0, 'x');
        Expect.same("fault", yard.read(), -3);
        Expect.same("place", yard.place(), 0);
        Yard none = new Yard();
        Expect.same("no bytes", none.read(), -1);
        Expect.same("place without bytes", none.place(), 0);
    }

    private static void behindContents() {
        Yard yard = twoFiles();
        yard.alter(3 * 512, 'x');
        Expect.same("fault", yard.read(), -3);
        Expect.same("place", yard.place(), 3);
    }

    private static void notThatOfContents() {
        Yard yard = twoFiles();
        yard.alter(2 * 512 + 511, 1);
        Expect.same("behind contents", yard.read(), -11);
        Expect.same("place", yard.place(), 0);
        yard.size(1024);
        Expect.same("contents that are not there", yard.read(), -10);
        Expect.same("place of these", yard.place(), 0);
    }

    private static void theLastBlock() {
        Yard yard = new Yard();
        for (int i = 0; i < 18; i++) {
            yard.make(0, Yard.FILE, 'a' + i, 1, 0);
        }
        yard.write();
        yard.alter(18 * 512, "A" + yard.bytes(1, 511));
        yard.check(18);
        Expect.same("one block of zeros", yard.read(), -2);
        Expect.same("place", yard.place(), 19);
        yard.size(10239);
        Expect.same("no whole block", yard.read(), -1);
        Expect.same("place of that", yard.place(), 19);
        yard.size(10240);
        yard.alter(19 * 512, "B" + yard.bytes(1, 511));
        yard.check(19);
        Expect.same("no block", yard.read(), -1);
        Expect.same("the one behind the last", yard.place(), 20);
    }

    private static void theLatest() {
        Yard yard = twoFiles();
        yard.alter(3 * 512, 'x');
        yard.read();
        yard.alter(0, 'x');
        yard.read();
        Expect.same("an earlier block", yard.place(), 0);
        yard.alter(0, 'a');
        yard.read();
        Expect.same("a later block again", yard.place(), 3);
        yard.read();
        Expect.same("the same again", yard.place(), 3);
    }

    private static void theLatestHadNone() {
        Yard yard = twoFiles();
        yard.read();
        Expect.same("the first read", yard.place(), Yard.NONE);
        yard.alter(3 * 512, 'x');
        yard.read();
        yard.alter(3 * 512, 'b');
        Expect.same("a good read behind a bad one", yard.read(), 3);
        Expect.same("place", yard.place(), Yard.NONE);
    }

    private static void otherCalls() {
        Yard yard = twoFiles();
        yard.alter(3 * 512, 'x');
        yard.read();
        yard.make(0, Yard.FILE, "c");
        yard.make(0, Yard.SYMBOLIC_LINK, "s");
        yard.rename(1, 'x', 1);
        yard.fill(4, 'x', 1);
        yard.contents(1, 5, 5);
        yard.set(1, 1, 1, 1);
        yard.remove(2);
        yard.write();
        yard.alter(0, 'x');
        yard.check(0);
        yard.size(0);
        Expect.same("place", yard.place(), 3);
        Expect.refused(yard, "a refused call", y -> y.check(0));
        Expect.same("place still", yard.place(), 3);
    }
}
