/** Promise 17, and PATH. */
public final class TotalTest {
    public static void main(String[] args) {
        Expect.holds("Nodes with the root (what = 0)", TotalTest::nodes);
        Expect.holds("bytes at hand (1)", TotalTest::bytes);
        Expect.holds("how long the longest path is (2; 0 for the root alone)", "the root alone", TotalTest::theRootAlone);
        Expect.holds("the names on the way to it from the root, 47 between them", TotalTest::names);
        Expect.holds("of a directory one more 47 at its end", TotalTest::directories);
        Expect.holds("how long the longest path is", "of several", TotalTest::longest);
        Expect.holds("how long the longest path is", "the longest of all", TotalTest::longestOfAll);
        Expect.holds("IllegalArgumentException", "what is none of these", TotalTest::noTotals);
        Expect.done();
    }

    private static void nodes() {
        Yard yard = new Yard();
        for (int i = 1; i < 30; i++) {
            Expect.same("nodes", yard.total(0), i);
            yard.make(0, Yard.FILE, "n" + i);
        }
        Expect.same("the most", yard.total(0), 30);
        Expect.full(yard, "one more", y -> y.make(0, Yard.FILE, 'x', 1, 0));
        yard.remove(3);
        Expect.same("one less", yard.total(0), 29);
    }

    private static void bytes() {
        Yard yard = new Yard();
        Expect.same("none", yard.total(1), 0);
        for (int size : new int[] {1, 10240, 77, 0}) {
            yard.size(size);
            Expect.same("size", yard.total(1), size);
        }
        yard.make(0, Yard.FILE, "f");
        yard.write();
        Expect.same("written", yard.total(1), 1536);
    }

    private static void theRootAlone() {
        Yard yard = new Yard();
        Expect.same("a new object", yard.total(2), 0);
        yard.make(0, Yard.FILE, "f");
        yard.remove(1);
        Expect.same("again", yard.total(2), 0);
        yard.write();
        yard.make(0, Yard.FILE, "f");
        yard.read();
        Expect.same("read", yard.total(2), 0);
    }

    private static void names() {
        for (int kind = 1; kind <= 3; kind++) {
            Yard yard = new Yard();
            yard.make(0, Yard.FILE, "f");
            yard.make(0, kind, "abc", 1);
            Expect.same("abc of kind " + kind, yard.total(2), 3);
            yard.make(0, Yard.DIRECTORY, "d");
            int inside = yard.make(3, kind, "xy", 1);
            Expect.same("d/xy", yard.total(2), 4);
            yard.rename(3, Yard.word("efgh"), 4);
            Expect.same("defgh/xy", yard.total(2), 8);
            yard.rename(inside, 'z', 1);
            Expect.same("defgh/xyz", yard.total(2), 9);
        }
    }

    private static void directories() {
        Yard yard = new Yard();
        yard.make(0, Yard.DIRECTORY, "d");
        Expect.same("d/", yard.total(2), 2);
        yard.make(1, Yard.DIRECTORY, "e");
        Expect.same("d/e/", yard.total(2), 4);
        yard.make(2, Yard.FILE, "f");
        Expect.same("d/e/f", yard.total(2), 5);
    }

    private static void longest() {
        Yard yard = new Yard();
        yard.make(0, Yard.FILE, "abcde");
        yard.make(0, Yard.DIRECTORY, "d");
        yard.make(2, Yard.FILE, "xy");
        Expect.same("the first", yard.total(2), 5);
        yard.make(2, Yard.FILE, "wxyz");
        Expect.same("the last", yard.total(2), 6);
        yard.remove(4);
        Expect.same("the first again", yard.total(2), 5);
        yard.remove(1);
        Expect.same("d/xy", yard.total(2), 4);
    }

    private static void longestOfAll() {
        Yard yard = new Yard();
        for (int in = 0; in < 28; in++) {
            yard.make(in, Yard.DIRECTORY, Yard.repeat('a', 100));
        }
        Expect.same("28 directories", yard.total(2), 28 * 101);
        int last = yard.make(28, Yard.DIRECTORY, Yard.repeat('a', 100));
        Expect.same("29 directories", yard.total(2), 29 * 101);
        yard.remove(last);
        yard.make(28, Yard.FILE, Yard.repeat('a', 100));
        Expect.same("a file in 28 directories", yard.total(2), 28 * 101 + 100);
    }

    private static void noTotals() {
        Yard yard = new Yard();
        yard.make(0, Yard.FILE, "f");
        yard.write();
        for (int what : new int[] {-1, 3, 4, Integer.MIN_VALUE, Integer.MAX_VALUE}) {
            Expect.refused(yard, "what " + what, y -> y.total(what));
        }
    }
}
