/** Promise 3. */
public final class RenameTest {
    public static void main(String[] args) {
        grows();
        wrongArguments();
        namesThatAreThere();
        hundred();
        Expect.done();
    }

    private static void grows() {
        TarYard yard = new TarYard();
        int file = Yards.make(yard, 0, Yards.FILE, "f");
        Expect.same("one more", yard.rename(file, 'g', 1), 2);
        Expect.same("eight more", yard.rename(file, Yards.word("abcdefgh"), 8), 10);
        Expect.same("three of eight", yard.rename(file, Yards.word("12345678"), 3), 13);
        Yards.expectText("name", Yards.name(yard, file), "fgabcdefgh123");
        Expect.same("a dot is fine behind", yard.rename(file, '.', 1), 14);
        Expect.same("33 and 126", yard.rename(file, Yards.word("!~"), 2), 16);
    }

    private static void wrongArguments() {
        TarYard yard = new TarYard();
        int file = Yards.make(yard, 0, Yards.FILE, "f");
        Expect.refused("root", () -> yard.rename(0, 'x', 1));
        for (int node : new int[] {-1, 2, 30, Integer.MIN_VALUE, Integer.MAX_VALUE}) {
            Expect.refused("node " + node, () -> yard.rename(node, 'x', 1));
        }
        for (int n : new int[] {-1, 0, 9, Integer.MIN_VALUE, Integer.MAX_VALUE}) {
            Expect.refused("n " + n, () -> yard.rename(file, Yards.word("abcdefgh"), n));
        }
        int longer = Yards.make(yard, 0, Yards.FILE, "longer");
        for (int n : new int[] {-5, -1, 0, 9}) {
            Expect.refused("n " + n + " of a longer name", () -> yard.rename(longer, Yards.word("abcdefgh"), n));
        }
        Yards.expectText("longer name", Yards.name(yard, longer), "longer");
        for (int letter : new int[] {0, 32, 47, 127, 128, 255}) {
            Expect.refused("letter " + letter, () -> yard.rename(file, letter, 1));
            Expect.refused("letter behind " + letter, () -> yard.rename(file, letter * 256L + 'x', 2));
        }
        Yards.expectText("name", Yards.name(yard, file), "f");
    }

    private static void namesThatAreThere() {
        TarYard yard = new TarYard();
        int dir = Yards.make(yard, 0, Yards.DIRECTORY, "a");
        int file = Yards.make(yard, 0, Yards.FILE, "ab");
        int inside = Yards.make(yard, dir, Yards.FILE, "a");
        Expect.refused("that of a file beside it", () -> yard.rename(dir, 'b', 1));
        Expect.same("that of a file elsewhere", yard.rename(inside, 'b', 1), 2);
        Expect.same("longer than that", yard.rename(dir, Yards.word("bc"), 2), 3);
        Expect.refused("that of a directory", () -> yard.rename(file, 'c', 1));
        Yards.expectText("name", Yards.name(yard, file), "ab");
    }

    private static void hundred() {
        TarYard yard = new TarYard();
        int file = Yards.make(yard, 0, Yards.FILE, Yards.repeat('x', 97));
        long w = Yards.word("abcdefgh");
        Expect.full("101", () -> yard.rename(file, w, 4));
        Expect.refused("a wrong character comes first", () -> yard.rename(file, Yards.word("abc/"), 4));
        Expect.same("100", yard.rename(file, w, 3), 100);
        Expect.full("101 again", () -> yard.rename(file, w, 1));
        Expect.full("108", () -> yard.rename(file, w, 8));
        Expect.refused("n comes first", () -> yard.rename(file, w, 9));
        Yards.expectText("name", Yards.name(yard, file), Yards.repeat('x', 97) + "abc");
        Expect.refused("a name of 100 made twice", () -> Yards.make(yard, 0, Yards.FILE, Yards.repeat('x', 97) + "abc"));
    }
}
