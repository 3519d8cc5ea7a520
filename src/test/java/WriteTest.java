/** Promise 8. */
public final class WriteTest {
    public static void main(String[] args) {
        header();
        targets();
        contentsInBlocks();
        order();
        whatIsGoneIsNotWritten();
        cutPaths();
        uncuttablePaths();
        longFilesOfHardLinks();
        tooManyBlocks();
        Expect.done();
    }

    private static String header(String path, String numbers, int type, String target, String first) {
        String before = padded(path, 100) + numbers;
        String behind = (char) type + padded(target, 100) + "ustar\u000000" + padded("", 64)
                + "0000000\u0000" + "0000000\u0000" + padded(first, 155) + padded("", 12);
        int sum = 8 * 32 + before.chars().sum() + behind.chars().sum();
        return before + padded("", 6 - Integer.toOctalString(sum).length()).replace('\u0000', '0')
                + Integer.toOctalString(sum) + "\u0000 " + behind;
    }

    private static String padded(String text, int length) {
        return text + "\u0000".repeat(length - text.length());
    }

    private static String block(TarYard yard, int block) {
        StringBuilder text = new StringBuilder();
        for (int i = 0; i < 512; i++) {
            text.append((char) yard.hand(block * 512 + i));
        }
        return text.toString();
    }

    private static final String PLAIN = "0000000\u0000" + "0000000\u0000" + "0000000\u0000" + "00000000000\u0000" + "00000000000\u0000";

    private static void header() {
        TarYard yard = new TarYard();
        Expect.same("the root alone", yard.write(), 2);
        Expect.same("bytes", yard.total(1), 1024);
        int dir = Yards.make(yard, 0, Yards.DIRECTORY, "dir");
        int file = Yards.make(yard, dir, Yards.FILE, "file");
        yard.set(dir, 4095, 2097151, Integer.MAX_VALUE);
        yard.set(file, 420, 8, 9);
        yard.contents(file, 65, 0);
        Expect.same("blocks", yard.write(), 5);
        Expect.same("bytes", yard.total(1), 5 * 512);
        Yards.expectText("directory", block(yard, 0), header("dir/",
                "0007777\u0000" + "7777777\u0000" + "0000000\u0000" + "00000000000\u0000" + "17777777777\u0000", 53, "", ""));
        Yards.expectText("file", block(yard, 1), header("dir/file",
                "0000644\u0000" + "0000010\u0000" + "0000000\u0000" + "00000000101\u0000" + "00000000011\u0000", 48, "", ""));
        Yards.expectText("end", block(yard, 3) + block(yard, 4), padded("", 1024));
        yard.remove(dir);
        yard.size(10240);
        Expect.same("fewer blocks", yard.write(), 2);
        Expect.same("fewer bytes", yard.total(1), 1024);
        Yards.expectText("in place of the bytes at hand", block(yard, 0) + block(yard, 1), padded("", 1024));
    }

    private static void targets() {
        TarYard yard = new TarYard();
        int dir = Yards.make(yard, 0, Yards.DIRECTORY, "d");
        int file = Yards.make(yard, dir, Yards.FILE, "f");
        int soft = Yards.make(yard, 0, Yards.SYMBOLIC_LINK, "s");
        Yards.make(yard, 0, Yards.SYMBOLIC_LINK, "t");
        Yards.make(yard, dir, Yards.HARD_LINK, "h", file);
        yard.contents(file, 10, 10);
        Yards.target(yard, soft, Yards.repeat('x', 100));
        Expect.same("blocks", yard.write(), 8);
        Yards.expectText("symbolic link", block(yard, 3), header("s", PLAIN, 50, Yards.repeat('x', 100), ""));
        Yards.expectText("without a target", block(yard, 4), header("t", PLAIN, 50, "", ""));
        Yards.expectText("hard link", block(yard, 5), header("d/h", PLAIN, 49, "d/f", ""));
    }

    private static void contentsInBlocks() {
        int[] lengths = {0, 1, 511, 512, 513, 1024, 1025, 2000};
        int[] blocks = {0, 1, 1, 1, 2, 2, 3, 4};
        for (int k = 0; k < lengths.length; k++) {
            TarYard yard = new TarYard();
            int file = Yards.make(yard, 0, Yards.FILE, "f");
            yard.size(10240);
            for (int i = 0; i < 3000; i++) {
                yard.alter(i, 255);
            }
            yard.contents(file, lengths[k], 200);
            Expect.same("blocks of " + lengths[k], yard.write(), 3 + blocks[k]);
            for (int i = 0; i < blocks[k] * 512 + 1024; i++) {
                Expect.same("byte " + i, yard.hand(512 + i), i < lengths[k] ? (200 + 31 * i) % 256 : 0);
            }
        }
    }

    private static void order() {
        TarYard yard = new TarYard();
        int file = Yards.make(yard, 0, Yards.FILE, "z");
        Yards.make(yard, 0, Yards.HARD_LINK, "y", file);
        int dir = Yards.make(yard, 0, Yards.DIRECTORY, "a");
        Yards.make(yard, 0, Yards.FILE, "a-b");
        Yards.make(yard, 0, Yards.FILE, "ab");
        Yards.make(yard, 0, Yards.FILE, "B");
        Yards.make(yard, dir, Yards.HARD_LINK, "q", file);
        Yards.make(yard, dir, Yards.SYMBOLIC_LINK, "p");
        int deep = Yards.make(yard, dir, Yards.DIRECTORY, "m");
        Yards.make(yard, deep, Yards.FILE, "k");
        Yards.make(yard, deep, Yards.HARD_LINK, "j", file);
        Yards.make(yard, dir, Yards.FILE, "m-");
        String[] paths = {"B", "a/", "a/m/", "a/m/k", "a/m-", "a/p", "a-b", "ab", "z", "a/m/j", "a/q", "y"};
        Expect.same("blocks", yard.write(), paths.length + 2);
        for (int i = 0; i < paths.length; i++) {
            Yards.expectText("entry " + i, Yards.atHand(yard, 512 * i, 100), paths[i]);
        }
        Expect.same("the tree is as it was", yard.node(file, 0), Yards.FILE);
    }

    private static void whatIsGoneIsNotWritten() {
        TarYard yard = new TarYard();
        int dir = Yards.make(yard, 0, Yards.DIRECTORY, "b");
        int file = Yards.make(yard, 0, Yards.FILE, "a");
        Yards.make(yard, dir, Yards.FILE, "c");
        Yards.make(yard, 0, Yards.HARD_LINK, "d", file);
        yard.remove(file);
        Expect.same("blocks", yard.write(), 4);
        Yards.expectText("first", Yards.atHand(yard, 0, 100), "b/");
        Yards.expectText("second", Yards.atHand(yard, 512, 100), "b/c");
        yard.remove(2);
        Expect.same("blocks again", yard.write(), 3);
        Yards.expectText("alone", Yards.atHand(yard, 0, 100), "b/");
        Expect.same("end", yard.hand(512), 0);
    }

    private static void expectParts(String what, TarYard yard, int block, String first, String second) {
        Yards.expectText(what + ", first", Yards.atHand(yard, block * 512 + 345, 155), first);
        Yards.expectText(what + ", second", Yards.atHand(yard, block * 512, 100), second);
    }

    private static void cutPaths() {
        TarYard yard = new TarYard();
        int a = Yards.make(yard, 0, Yards.DIRECTORY, Yards.repeat('a', 50));
        int b = Yards.make(yard, a, Yards.DIRECTORY, Yards.repeat('b', 30));
        Yards.make(yard, b, Yards.FILE, Yards.repeat('c', 18));
        Yards.make(yard, b, Yards.FILE, Yards.repeat('d', 19));
        Yards.make(yard, b, Yards.FILE, Yards.repeat('e', 69));
        Yards.make(yard, b, Yards.FILE, Yards.repeat('f', 70));
        yard.write();
        String top = Yards.repeat('a', 50);
        String sub = Yards.repeat('b', 30);
        expectParts("100", yard, 2, "", top + "/" + sub + "/" + Yards.repeat('c', 18));
        expectParts("101", yard, 3, top, sub + "/" + Yards.repeat('d', 19));
        expectParts("100 behind the first", yard, 4, top, sub + "/" + Yards.repeat('e', 69));
        expectParts("101 behind the first", yard, 5, top + "/" + sub, Yards.repeat('f', 70));
        cutPathOfADirectory();
        longestFirstPart();
        shortestSecondPart();
    }

    private static void shortestSecondPart() {
        TarYard yard = new TarYard();
        int p = Yards.make(yard, 0, Yards.DIRECTORY, "p");
        int n = Yards.make(yard, p, Yards.DIRECTORY, Yards.repeat('n', 99));
        Yards.make(yard, n, Yards.FILE, "f");
        Expect.same("blocks", yard.write(), 5);
        expectParts("100 behind, with the last 47", yard, 1, "p", Yards.repeat('n', 99) + "/");
        expectParts("101 behind, so 1", yard, 2, "p/" + Yards.repeat('n', 99), "f");
        Expect.same("is read again", yard.read(), 4);
    }

    private static void cutPathOfADirectory() {
        TarYard yard = new TarYard();
        int a = Yards.make(yard, 0, Yards.DIRECTORY, Yards.repeat('a', 40));
        int b = Yards.make(yard, a, Yards.DIRECTORY, Yards.repeat('b', 58));
        yard.write();
        expectParts("100 with the last", yard, 1, "", Yards.repeat('a', 40) + "/" + Yards.repeat('b', 58) + "/");
        yard.rename(b, 'c', 1);
        yard.write();
        expectParts("101 with the last", yard, 1, Yards.repeat('a', 40), Yards.repeat('b', 58) + "c/");
    }

    private static void longestFirstPart() {
        TarYard yard = new TarYard();
        int a = Yards.make(yard, 0, Yards.DIRECTORY, Yards.repeat('a', 90));
        int b = Yards.make(yard, a, Yards.DIRECTORY, Yards.repeat('b', 64));
        Yards.make(yard, b, Yards.FILE, Yards.repeat('c', 100));
        yard.write();
        expectParts("155 and 100", yard, 2, Yards.repeat('a', 90) + "/" + Yards.repeat('b', 64), Yards.repeat('c', 100));
        Expect.same("last of the first part", yard.hand(1024 + 499), 'b');
        String before = Yards.state(yard);
        yard.rename(b, 'b', 1);
        Expect.unsupported("156 and 100", yard::write);
        Expect.same("the bytes stay", yard.total(1), 5 * 512);
        yard.remove(3);
        Expect.same("without the file", yard.write(), 4);
        Expect.same("other bytes now", before.equals(Yards.state(yard)) ? 1 : 0, 0);
    }

    private static void uncuttablePaths() {
        TarYard yard = new TarYard();
        int dir = Yards.make(yard, 0, Yards.DIRECTORY, Yards.repeat('a', 99));
        Expect.same("99 and the last 47", yard.write(), 3);
        yard.rename(dir, 'a', 1);
        String before = Yards.state(yard);
        Expect.unsupported("nothing behind the only 47", yard::write);
        Yards.expectText("state", Yards.state(yard), before);
        TarYard file = new TarYard();
        Yards.make(file, 0, Yards.FILE, Yards.repeat('a', 100));
        Expect.same("a file of 100", file.write(), 3);
        TarYard deep = new TarYard();
        int in = Yards.make(deep, 0, Yards.DIRECTORY, "d");
        Yards.make(deep, in, Yards.DIRECTORY, Yards.repeat('a', 100));
        Expect.unsupported("101 behind the first, none behind the last", deep::write);
        TarYard chain = new TarYard();
        int at = 0;
        for (int i = 1; i < 18; i++) {
            at = Yards.make(chain, at, Yards.DIRECTORY, "abcdefghijkl");
        }
        Expect.same("221 characters", chain.write(), 19);
        at = Yards.make(chain, at, Yards.DIRECTORY, "abcdefghijkl");
        Expect.same("234 characters", chain.write(), 20);
        chain.rename(1, Yards.word("abcdefgh"), 8);
        chain.rename(1, Yards.word("abcdefgh"), 8);
        chain.rename(1, Yards.word("abcdefgh"), 6);
        Expect.unsupported("256 characters, but not at a 47", chain::write);
    }

    private static void longFilesOfHardLinks() {
        TarYard yard = new TarYard();
        int dir = Yards.make(yard, 0, Yards.DIRECTORY, Yards.repeat('a', 90));
        int file = Yards.make(yard, dir, Yards.FILE, Yards.repeat('b', 9));
        Yards.make(yard, 0, Yards.HARD_LINK, "h", file);
        Expect.same("100", yard.write(), 5);
        Yards.expectText("target", Yards.atHand(yard, 1024 + 157, 100), Yards.repeat('a', 90) + "/" + Yards.repeat('b', 9));
        yard.rename(file, 'b', 1);
        Expect.unsupported("101", yard::write);
        Expect.same("the bytes stay", yard.hand(1024 + 256), 'b');
        yard.remove(3);
        Expect.same("without the link", yard.write(), 4);
    }

    private static void tooManyBlocks() {
        TarYard yard = new TarYard();
        for (int i = 0; i < 18; i++) {
            yard.make(0, Yards.FILE, 'a' + i, 1, 0);
        }
        Expect.same("20", yard.write(), 20);
        Expect.same("bytes", yard.total(1), 10240);
        yard.fill(5, 1, 1);
        String before = Yards.state(yard);
        Expect.unsupported("21", yard::write);
        Yards.expectText("state", Yards.state(yard), before);
        yard.remove(1);
        Expect.same("20 again", yard.write(), 20);
        yard.contents(4, 512, 1);
        Expect.same("a whole block", yard.write(), 20);
        yard.contents(4, 513, 1);
        Expect.unsupported("a byte more", yard::write);
    }
}
