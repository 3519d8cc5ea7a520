/** HEADER: each byte of it, and how a path is cut. */
public final class HeaderTest {
    private static final String ZEROS = "0000000\u0000" + "0000000\u0000" + "0000000\u0000" + "00000000000\u0000" + "00000000000\u0000";

    public static void main(String[] args) {
        Expect.holds("HEADER", "all that is least", HeaderTest::least);
        Expect.holds("HEADER", "all that is most", HeaderTest::most);
        Expect.holds("0 .. 99 the path", HeaderTest::paths);
        Expect.holds("100 .. 107 the mode", HeaderTest::modes);
        Expect.holds("108 .. 115 the owner", HeaderTest::owners);
        Expect.holds("116 .. 123 7 digits 48 and a zero", HeaderTest::group);
        Expect.holds("124 .. 135 how long contents are", HeaderTest::lengths);
        Expect.holds("124 .. 135 how long contents are", "none of links and directories", HeaderTest::lengthsOfOthers);
        Expect.holds("136 .. 147 the time", HeaderTest::times);
        Expect.holds("148 .. 155 the CHECK in 6 octal digits, a zero, 32", HeaderTest::check);
        Expect.holds("156 the type: 48 file, 49 hard link, 50 symbolic link, 53 directory", HeaderTest::types);
        Expect.holds("157 .. 256 the target", HeaderTest::targets);
        Expect.holds("or the path of a hard link's file", HeaderTest::pathOfAFile);
        Expect.holds("257 .. 264 the bytes 117 115 116 97 114 0 48 48", HeaderTest::mark);
        Expect.holds("329 .. 336 and 337 .. 344 7 digits 48 and a zero", HeaderTest::behindTheMark);
        Expect.holds("345 .. 499 the first part of the path, if it is cut", HeaderTest::firstPart);
        Expect.holds("zeros where nothing is told", HeaderTest::zeros);
        Expect.holds("A path longer than 100 is cut in two", "100 is not", HeaderTest::hundredIsNotCut);
        Expect.holds("A path longer than 100 is cut in two", "101 is", HeaderTest::hundredAndOneIsCut);
        Expect.holds("at its first 47 behind which there are 1 to 100 characters", "100", HeaderTest::hundredBehind);
        Expect.holds("at its first 47 behind which there are 1 to 100 characters", "101, so the next", HeaderTest::hundredAndOneBehind);
        Expect.holds("at its first 47 behind which there are 1 to 100 characters", "1", HeaderTest::oneBehind);
        Expect.holds("at its first 47 behind which there are 1 to 100 characters", "0", HeaderTest::noneBehind);
        Expect.holds("at its first 47 behind which there are 1 to 100 characters", "the first of many", HeaderTest::firstOfMany);
        Expect.holds("that 47 is in none of both", HeaderTest::inNoneOfBoth);
        Expect.holds("with a first part of at most 155", "155", HeaderTest::firstPartOf155);
        Expect.holds("with a first part of at most 155", "156", HeaderTest::firstPartOf156);
        Expect.holds("a path longer than 100 can't be cut", "one name alone", HeaderTest::oneNameAlone);
        Expect.done();
    }

    private static String padded(String text, int length) {
        return text + Yard.repeat('\0', length - text.length());
    }

    private static String header(String path, String numbers, int type, String target, String first) {
        String before = padded(path, 100) + numbers;
        String behind = (char) type + padded(target, 100) + "ustar\u000000" + padded("", 64)
                + "0000000\u0000" + "0000000\u0000" + padded(first, 155) + padded("", 12);
        int sum = 8 * 32 + before.chars().sum() + behind.chars().sum();
        return before + String.format("%06o", sum) + "\u0000 " + behind;
    }

    private static Yard withFile() {
        Yard yard = new Yard();
        yard.make(0, Yard.FILE, "f");
        return yard;
    }

    /** A node in directories, the root's first. */
    private static Yard withPath(int kind, String... names) {
        Yard yard = new Yard();
        int in = 0;
        for (int i = 0; i < names.length - 1; i++) {
            in = yard.make(in, Yard.DIRECTORY, names[i]);
        }
        yard.make(in, kind, names[names.length - 1]);
        return yard;
    }

    private static void expectParts(Yard yard, int block, String first, String second) {
        yard.write();
        Expect.text("first part", yard.bytes(block * 512 + 345, 155), padded(first, 155));
        Expect.text("second part", yard.bytes(block * 512, 100), padded(second, 100));
        Expect.same("is read again", yard.read(), yard.total(1) / 512 - 1);
    }

    private static void least() {
        Yard yard = withFile();
        yard.write();
        Expect.text("file", yard.bytes(0, 512), header("f", ZEROS, 48, "", ""));
        Yard dir = new Yard();
        dir.make(0, Yard.DIRECTORY, "d");
        dir.write();
        Expect.text("directory", dir.bytes(0, 512), header("d/", ZEROS, 53, "", ""));
        Yard link = new Yard();
        link.make(0, Yard.SYMBOLIC_LINK, "s");
        link.write();
        Expect.text("symbolic link", link.bytes(0, 512), header("s", ZEROS, 50, "", ""));
        yard.make(0, Yard.HARD_LINK, "h", 1);
        yard.write();
        Expect.text("hard link", yard.bytes(512, 512), header("h", ZEROS, 49, "f", ""));
    }

    private static void most() {
        String a = Yard.repeat('~', 90);
        String b = Yard.repeat('}', 64);
        String c = Yard.repeat('~', 100);
        Yard yard = withPath(Yard.SYMBOLIC_LINK, a, b, c);
        yard.fill(3, c);
        yard.set(3, 4095, 2097151, Integer.MAX_VALUE);
        yard.write();
        String numbers = "0007777\u0000" + "7777777\u0000" + "0000000\u0000" + "00000000000\u0000" + "17777777777\u0000";
        Expect.text("symbolic link", yard.bytes(1024, 512), header(c, numbers, 50, c, a + "/" + b));
        Yard file = withPath(Yard.FILE, a, b, c);
        file.contents(3, 2000, 1);
        file.set(3, 4095, 2097151, Integer.MAX_VALUE);
        file.write();
        String withLength = "0007777\u0000" + "7777777\u0000" + "0000000\u0000" + "00000003720\u0000" + "17777777777\u0000";
        Expect.text("file", file.bytes(1024, 512), header(c, withLength, 48, "", a + "/" + b));
    }

    private static void paths() {
        for (int length : new int[] {1, 2, 99, 100}) {
            Yard yard = new Yard();
            yard.make(0, Yard.FILE, Yard.repeat('p', length));
            yard.write();
            Expect.text("path", yard.bytes(0, 100), padded(Yard.repeat('p', length), 100));
            Expect.text("mode behind it", yard.bytes(100, 8), "0000000\u0000");
        }
        Yard deep = withPath(Yard.DIRECTORY, "a", "bc", "d");
        deep.write();
        Expect.text("names and 47 between and behind", deep.bytes(1024, 100), padded("a/bc/d/", 100));
    }

    private static void expectNumbers(String what, int at, int length, int[] numbers, String... digits) {
        for (int k = 0; k < numbers.length; k++) {
            Yard yard = withFile();
            yard.set(1, at == 100 ? numbers[k] : 0, at == 108 ? numbers[k] : 0, at == 136 ? numbers[k] : 0);
            yard.write();
            Expect.text(what + " " + numbers[k], yard.bytes(at, length), digits[k] + "\u0000");
            Expect.same("the byte before", yard.hand(at - 1), 0);
        }
    }

    private static void modes() {
        expectNumbers("mode", 100, 8, new int[] {0, 7, 8, 420, 4095}, "0000000", "0000007", "0000010", "0000644", "0007777");
    }

    private static void owners() {
        expectNumbers("owner", 108, 8, new int[] {0, 7, 8, 262143, 262144, 2097151},
                "0000000", "0000007", "0000010", "0777777", "1000000", "7777777");
    }

    private static void times() {
        expectNumbers("time", 136, 12, new int[] {0, 7, 8, 1073741823, 1073741824, Integer.MAX_VALUE},
                "00000000000", "00000000007", "00000000010", "07777777777", "10000000000", "17777777777");
    }

    private static void group() {
        Yard yard = withFile();
        yard.set(1, 4095, 2097151, Integer.MAX_VALUE);
        yard.write();
        Expect.text("at 116", yard.bytes(116, 8), "0000000\u0000");
    }

    private static void lengths() {
        int[] lengths = {0, 1, 7, 8, 511, 512, 2000};
        String[] digits = {"00000000000", "00000000001", "00000000007", "00000000010", "00000000777", "00000001000", "00000003720"};
        for (int k = 0; k < lengths.length; k++) {
            Yard yard = withFile();
            yard.contents(1, lengths[k], 1);
            yard.write();
            Expect.text("length " + lengths[k], yard.bytes(124, 12), digits[k] + "\u0000");
        }
    }

    private static void lengthsOfOthers() {
        Yard yard = withFile();
        yard.contents(1, 100, 1);
        yard.make(0, Yard.SYMBOLIC_LINK, "s");
        yard.fill(2, Yard.repeat('t', 100));
        yard.make(0, Yard.HARD_LINK, "h", 1);
        yard.make(0, Yard.DIRECTORY, "d");
        yard.write();
        for (int block : new int[] {0, 3, 4}) {
            Expect.text("block " + block, yard.bytes(block * 512 + 124, 12), "00000000000\u0000");
        }
    }

    private static void check() {
        Yard yard = withFile();
        yard.write();
        int sum = 8 * 32 + 'f' + (7 + 7 + 7 + 11 + 11 + 7 + 7) * 48 + 48 + 117 + 115 + 116 + 97 + 114 + 2 * 48;
        Expect.text("check", yard.bytes(148, 8), String.format("%06o", sum) + "\u0000 ");
        Expect.same("again", yard.check(0), sum);
    }

    private static void types() {
        int[] types = {53, 48, 50, 49};
        for (int kind = 0; kind <= 3; kind++) {
            Yard yard = new Yard();
            yard.make(0, Yard.FILE, "a");
            yard.make(0, kind, "b", 1);
            yard.write();
            Expect.same("kind " + kind, yard.hand(512 + 156), types[kind]);
        }
    }

    private static void targets() {
        for (int length : new int[] {0, 1, 99, 100}) {
            Yard yard = new Yard();
            yard.make(0, Yard.SYMBOLIC_LINK, "s");
            yard.fill(1, Yard.repeat('t', length));
            yard.write();
            Expect.text("target", yard.bytes(157, 100), padded(Yard.repeat('t', length), 100));
            Expect.same("type before it", yard.hand(156), 50);
            Expect.same("mark behind it", yard.hand(257), 117);
        }
    }

    private static void pathOfAFile() {
        Yard yard = withPath(Yard.FILE, "a", "b", "c");
        yard.make(1, Yard.HARD_LINK, "h", 3);
        yard.write();
        Expect.text("of a file in directories", yard.bytes(3 * 512 + 157, 100), padded("a/b/c", 100));
        Expect.text("its own", yard.bytes(3 * 512, 100), padded("a/h", 100));
        String hundred = Yard.repeat('f', 100);
        Yard longest = withPath(Yard.FILE, hundred);
        longest.make(0, Yard.HARD_LINK, "h", 1);
        longest.write();
        Expect.text("of 100", longest.bytes(512 + 157, 100), hundred);
    }

    private static void mark() {
        Yard yard = withFile();
        yard.write();
        int[] mark = {117, 115, 116, 97, 114, 0, 48, 48};
        for (int i = 0; i < mark.length; i++) {
            Expect.same("byte " + (257 + i), yard.hand(257 + i), mark[i]);
        }
    }

    private static void behindTheMark() {
        Yard yard = new Yard();
        for (int kind = 0; kind <= 3; kind++) {
            yard.make(0, kind, "n" + kind, 2);
            yard.set(kind + 1, 4095, 2097151, Integer.MAX_VALUE);
        }
        yard.write();
        for (int block = 0; block < 4; block++) {
            Expect.text("of block " + block, yard.bytes(block * 512 + 329, 16), "0000000\u00000000000\u0000");
        }
    }

    private static void firstPart() {
        String a = Yard.repeat('a', 90);
        String b = Yard.repeat('b', 64);
        Yard yard = withPath(Yard.FILE, a, b, Yard.repeat('c', 100));
        yard.write();
        Expect.text("of a path of 91", yard.bytes(345, 155), padded("", 155));
        Expect.text("of a path of 156", yard.bytes(512 + 345, 155), padded(a, 155));
        Expect.text("of a path of 256", yard.bytes(1024 + 345, 155), a + "/" + b);
        Expect.same("before it", yard.hand(1024 + 344), 0);
        Expect.same("behind it", yard.hand(1024 + 500), 0);
    }

    private static void zeros() {
        Yard yard = withFile();
        yard.write();
        for (int[] range : new int[][] {{1, 99}, {157, 256}, {265, 328}, {345, 499}, {500, 511}}) {
            for (int i = range[0]; i <= range[1]; i++) {
                Expect.same("byte " + i, yard.hand(i), 0);
            }
        }
    }

    private static void hundredIsNotCut() {
        String a = Yard.repeat('a', 50);
        expectParts(withPath(Yard.FILE, a, Yard.repeat('b', 49)), 1, "", a + "/" + Yard.repeat('b', 49));
        expectParts(withPath(Yard.DIRECTORY, a, Yard.repeat('b', 48)), 1, "", a + "/" + Yard.repeat('b', 48) + "/");
        expectParts(withPath(Yard.FILE, Yard.repeat('a', 100)), 0, "", Yard.repeat('a', 100));
        expectParts(withPath(Yard.DIRECTORY, Yard.repeat('a', 99)), 0, "", Yard.repeat('a', 99) + "/");
    }

    private static void hundredAndOneIsCut() {
        String a = Yard.repeat('a', 50);
        expectParts(withPath(Yard.FILE, a, Yard.repeat('b', 50)), 1, a, Yard.repeat('b', 50));
        expectParts(withPath(Yard.SYMBOLIC_LINK, a, Yard.repeat('b', 50)), 1, a, Yard.repeat('b', 50));
        expectParts(withPath(Yard.DIRECTORY, a, Yard.repeat('b', 49)), 1, a, Yard.repeat('b', 49) + "/");
        Yard link = withPath(Yard.FILE, "f");
        int dir = link.make(0, Yard.DIRECTORY, a);
        link.make(dir, Yard.HARD_LINK, Yard.repeat('b', 50), 1);
        expectParts(link, 2, a, Yard.repeat('b', 50));
    }

    private static void hundredBehind() {
        String b = Yard.repeat('b', 30);
        expectParts(withPath(Yard.FILE, "a", b, Yard.repeat('c', 69)), 2, "a", b + "/" + Yard.repeat('c', 69));
        expectParts(withPath(Yard.DIRECTORY, "a", b, Yard.repeat('c', 68)), 2, "a", b + "/" + Yard.repeat('c', 68) + "/");
        expectParts(withPath(Yard.DIRECTORY, "p", Yard.repeat('n', 99)), 1, "p", Yard.repeat('n', 99) + "/");
        expectParts(withPath(Yard.FILE, "p", Yard.repeat('n', 100)), 1, "p", Yard.repeat('n', 100));
    }

    private static void hundredAndOneBehind() {
        String b = Yard.repeat('b', 30);
        expectParts(withPath(Yard.FILE, "a", b, Yard.repeat('c', 70)), 2, "a/" + b, Yard.repeat('c', 70));
        expectParts(withPath(Yard.DIRECTORY, "a", b, Yard.repeat('c', 69)), 2, "a/" + b, Yard.repeat('c', 69) + "/");
    }

    private static void oneBehind() {
        String n = Yard.repeat('n', 99);
        expectParts(withPath(Yard.FILE, n, "f"), 1, n, "f");
        expectParts(withPath(Yard.FILE, "p", n, "f"), 2, "p/" + n, "f");
        expectParts(withPath(Yard.DIRECTORY, n, "d"), 1, n, "d/");
    }

    private static void noneBehind() {
        Yard yard = withPath(Yard.DIRECTORY, Yard.repeat('n', 99));
        expectParts(yard, 0, "", Yard.repeat('n', 99) + "/");
        yard.rename(1, 'n', 1);
        Expect.unsupported(yard, "a directory of 100", Yard::write);
        Expect.unsupported(withPath(Yard.DIRECTORY, "p", Yard.repeat('n', 100)), "101 behind the first 47", Yard::write);
    }

    private static void firstOfMany() {
        String[] names = new String[18];
        for (int i = 0; i < 18; i++) {
            names[i] = "abcdefghijkl";
        }
        String ten = "abcdefghijkl/".repeat(10) + "abcdefghijkl";
        String seven = "/abcdefghijkl".repeat(7).substring(1);
        expectParts(withPath(Yard.FILE, names), 17, ten, seven);
        expectParts(withPath(Yard.DIRECTORY, names), 17, ten, seven + "/");
    }

    private static void inNoneOfBoth() {
        Yard yard = withPath(Yard.FILE, Yard.repeat('a', 60), Yard.repeat('b', 60));
        yard.write();
        Expect.same("end of the first part", yard.hand(512 + 345 + 59), 'a');
        Expect.same("behind it", yard.hand(512 + 345 + 60), 0);
        Expect.same("begin of the second part", yard.hand(512), 'b');
        Expect.same("its end", yard.hand(512 + 59), 'b');
        Expect.same("behind that", yard.hand(512 + 60), 0);
    }

    private static void firstPartOf155() {
        String a = Yard.repeat('a', 90);
        for (int length : new int[] {154, 155}) {
            String b = Yard.repeat('b', length - 91);
            expectParts(withPath(Yard.FILE, a, b, Yard.repeat('c', 100)), 2, a + "/" + b, Yard.repeat('c', 100));
            expectParts(withPath(Yard.DIRECTORY, a, b, Yard.repeat('c', 99)), 2, a + "/" + b, Yard.repeat('c', 99) + "/");
            expectParts(withPath(Yard.FILE, a, b, "c"), 2, a, b + "/c");
        }
    }

    private static void firstPartOf156() {
        String a = Yard.repeat('a', 90);
        String b = Yard.repeat('b', 65);
        Expect.unsupported(withPath(Yard.FILE, a, b, Yard.repeat('c', 100)), "156 and 100", Yard::write);
        Expect.unsupported(withPath(Yard.DIRECTORY, a, b, Yard.repeat('c', 99)), "156, 99 and 47", Yard::write);
        Expect.unsupported(withPath(Yard.FILE, a, b + "b", "c", Yard.repeat('d', 99)), "157, 1 and 99", Yard::write);
        Yard deep = new Yard();
        int in = 0;
        for (int i = 0; i < 18; i++) {
            in = deep.make(in, Yard.DIRECTORY, Yard.repeat('e', 20));
        }
        Expect.unsupported(deep, "377 and 47", Yard::write);
    }

    private static void oneNameAlone() {
        Expect.unsupported(withPath(Yard.DIRECTORY, Yard.repeat('a', 100)), "100 and 47", Yard::write);
        Yard yard = withPath(Yard.FILE, Yard.repeat('a', 100), "f");
        Expect.unsupported(yard, "a directory that can't be cut, though what is in it can", Yard::write);
    }
}
