/** READING, FAULTS 3 to 6: the check, the mark, the numbers and the type. */
public final class HeaderFaultsTest {
    private static final int[] STARTS = {100, 108, 116, 124, 136, 329, 337};
    private static final int[] ENDS = {107, 115, 123, 135, 147, 336, 344};

    public static void main(String[] args) {
        Expect.holds("3 the CHECK is not 6 octal digits, a zero, 32", "each byte of it", HeaderFaultsTest::bytesOfTheCheck);
        Expect.holds("3 the CHECK is not 6 octal digits, a zero, 32", "blanks for digits 48", HeaderFaultsTest::blanksInTheCheck);
        Expect.holds("or is another one", "one less and one more", HeaderFaultsTest::anotherCheck);
        Expect.holds("or is another one", "each byte of a header counts", HeaderFaultsTest::eachByteCounts);
        Expect.holds("the sum of all 512 bytes, with 32 for each of its own eight", HeaderFaultsTest::highBytes);
        Expect.holds("4 bytes 257 .. 264", "not as WRITTEN", HeaderFaultsTest::mark);
        Expect.holds("265 .. 328", "not as WRITTEN", HeaderFaultsTest::zerosBehindTheMark);
        Expect.holds("500 .. 511 are not as WRITTEN", HeaderFaultsTest::zerosAtTheEnd);
        Expect.holds("5 a number is not as many octal digits and a zero", "each digit", HeaderFaultsTest::digits);
        Expect.holds("5 a number is not as many octal digits and a zero", "the last and the first digit", HeaderFaultsTest::lastDigits);
        Expect.holds("5 a number is not as many octal digits and a zero", "its zero", HeaderFaultsTest::zerosBehindNumbers);
        Expect.holds("the one at 116 may be any, those at 329 and 337 too", HeaderFaultsTest::anyNumbers);
        Expect.holds("a mode above 4095", HeaderFaultsTest::modes);
        Expect.holds("a time above 2147483647", HeaderFaultsTest::times);
        Expect.holds("5 a number", "an owner can't be too large", HeaderFaultsTest::owners);
        Expect.holds("6 the type is none of the four", HeaderFaultsTest::types);
        Expect.holds("or it is not a file and has contents", HeaderFaultsTest::contentsOfOthers);
        Expect.holds("or it is not a file and has contents", "of a length that wraps round", HeaderFaultsTest::wrappedLengths);
        Expect.holds("at each header", "the directory's too", HeaderFaultsTest::theDirectory);
        Expect.done();
    }

    private static void bytesOfTheCheck() {
        for (int i = 148; i < 156; i++) {
            for (int b : new int[] {0, 32, 47, 48, 56, 57, 255}) {
                Archive archive = new Archive();
                if (archive.yard.hand(Archive.HEADER + i) != b) {
                    archive.yard.alter(Archive.HEADER + i, b);
                    archive.expectFault("byte " + i + " is " + b, 3);
                }
            }
        }
        new Archive().expectBoth("as it was");
    }

    private static void blanksInTheCheck() {
        Archive archive = new Archive();
        String digits = archive.yard.bytes(Archive.HEADER + 148, 6);
        Expect.same("it begins with 48", digits.charAt(0), 48);
        archive.yard.alter(Archive.HEADER + 148, " " + digits.substring(1));
        archive.expectFault("a blank before", 3);
        archive.yard.alter(Archive.HEADER + 148, digits.substring(1) + "\0 \0");
        archive.expectFault("one digit less", 3);
        archive.yard.alter(Archive.HEADER + 148, "0" + digits + " ");
        archive.expectFault("one digit more", 3);
    }

    private static void anotherCheck() {
        Archive archive = new Archive();
        int sum = Integer.parseInt(archive.yard.bytes(Archive.HEADER + 148, 6), 8);
        for (int other : new int[] {sum - 1, sum + 1, 0, sum - 256, sum + 8 * 32, sum ^ 32768, 262143}) {
            archive.yard.alter(Archive.HEADER + 148, String.format("%06o", other));
            archive.expectFault("check " + other, 3);
        }
        archive.yard.alter(Archive.HEADER + 148, String.format("%06o", sum));
        archive.expectBoth("the right one");
    }

    private static void eachByteCounts() {
        for (int i = 0; i < 512; i++) {
            Archive archive = new Archive();
            archive.yard.alter(Archive.HEADER + i, (archive.yard.hand(Archive.HEADER + i) + 1) % 256);
            archive.expectFault("byte " + i, 3);
        }
    }

    private static void highBytes() {
        new Archive().with(5, 255).expectFault("255 counts as 255", 7);
        new Archive().with(99, 128).expectFault("128 counts as 128", 7);
        Archive archive = new Archive();
        archive.yard.alter(Archive.HEADER + 5, 255);
        int sum = Integer.parseInt(archive.yard.bytes(Archive.HEADER + 148, 6), 8);
        archive.yard.alter(Archive.HEADER + 148, String.format("%06o", sum - 1));
        archive.expectFault("not as -1", 3);
    }

    private static void mark() {
        int[] mark = {117, 115, 116, 97, 114, 0, 48, 48};
        for (int i = 0; i < 8; i++) {
            for (int b : new int[] {mark[i] + 1, (mark[i] + 255) % 256, 32}) {
                new Archive().with(257 + i, b).expectFault("byte " + (257 + i) + " is " + b, 4);
            }
        }
        new Archive().with(257, "ustar  \0").expectFault("the mark of another format", 4);
    }

    private static void zerosBehindTheMark() {
        for (int i = 265; i <= 328; i++) {
            new Archive().with(i, i % 2 == 0 ? 1 : 255).expectFault("byte " + i, 4);
        }
    }

    private static void zerosAtTheEnd() {
        for (int i = 500; i <= 511; i++) {
            new Archive().with(i, i % 2 == 0 ? 1 : 255).expectFault("byte " + i, 4);
        }
        new Archive().with(499, 1).expectFault("byte 499 is the path's", 7);
    }

    private static void digits() {
        for (int k = 0; k < STARTS.length; k++) {
            for (int i = STARTS[k]; i < ENDS[k]; i++) {
                for (int b : new int[] {0, 32, 47, 56, 255}) {
                    new Archive().with(i, b).expectFault("byte " + i + " is " + b, 5);
                }
            }
        }
    }

    private static void lastDigits() {
        for (int k = 0; k < STARTS.length; k++) {
            if (STARTS[k] != 124) {
                new Archive().with(ENDS[k] - 1, 48).expectBoth("48 at " + (ENDS[k] - 1));
                new Archive().with(ENDS[k] - 1, 55).expectBoth("55 at " + (ENDS[k] - 1));
            }
        }
        Archive four = new Archive().with(134, 52);
        four.expectBoth("contents of 4");
        Expect.same("how long", four.yard.node(2, 6), 4);
        Expect.same("the fourth", four.yard.part(2, 1, 3), 0);
        Archive seven = new Archive().with(134, 55);
        seven.expectBoth("contents of 7");
        Expect.same("how long", seven.yard.node(2, 6), 7);
    }

    private static void zerosBehindNumbers() {
        for (int end : ENDS) {
            for (int b : new int[] {1, 32, 48, 255}) {
                new Archive().with(end, b).expectFault("byte " + end + " is " + b, 5);
            }
        }
    }

    private static void anyNumbers() {
        for (int at : new int[] {116, 329, 337}) {
            for (String number : new String[] {"0000001", "7654321", "7777777"}) {
                Archive archive = new Archive().with(at, number);
                archive.expectBoth(number + " at " + at);
                Expect.same("the owner stays", archive.yard.node(2, 4), 2);
            }
        }
    }

    private static void expectNumber(int at, String digits, int what, int due) {
        Archive archive = new Archive().with(at, digits);
        archive.expectBoth(digits + " at " + at);
        Expect.same(digits + " at " + at, archive.yard.node(2, what), due);
    }

    private static void modes() {
        expectNumber(100, "0000000", 3, 0);
        expectNumber(100, "0000644", 3, 420);
        expectNumber(100, "0007777", 3, 4095);
        for (String digits : new String[] {"0010000", "0010001", "0100000", "1000000", "7777777"}) {
            new Archive().with(100, digits).expectFault("mode " + digits, 5);
        }
    }

    private static void times() {
        expectNumber(136, "00000000000", 5, 0);
        expectNumber(136, "10000000000", 5, 1 << 30);
        expectNumber(136, "17777777777", 5, Integer.MAX_VALUE);
        for (String digits : new String[] {"20000000000", "20000000001", "37777777777", "40000000000", "40000000001", "77777777777"}) {
            new Archive().with(136, digits).expectFault("time " + digits, 5);
        }
    }

    private static void owners() {
        expectNumber(108, "0000000", 4, 0);
        expectNumber(108, "1000000", 4, 262144);
        expectNumber(108, "7777777", 4, 2097151);
    }

    private static void types() {
        for (int type = 0; type < 256; type++) {
            Archive archive = new Archive().with(124, "00000000000").cutTo(1024);
            archive.yard.size(2048);
            archive.with(156, type);
            if (type == 48 || type == 50) {
                archive.expectBoth("type " + type);
                Expect.same("kind of " + type, archive.yard.node(2, 0), type == 48 ? Yard.FILE : Yard.SYMBOLIC_LINK);
            } else if (type == 49) {
                archive.expectFault("a hard link of no file", 8);
            } else if (type == 53) {
                archive.expectFault("a directory that does not end in 47", 7);
            } else {
                archive.expectFault("type " + type, 6);
            }
        }
    }

    private static void contentsOfOthers() {
        for (int type : new int[] {49, 50, 53}) {
            for (String digits : new String[] {"00000000001", "00000003720", "00000003721", "77777777777"}) {
                new Archive().with(156, type).with(124, digits).expectFault(digits + " of type " + type, 6);
            }
        }
    }

    private static void wrappedLengths() {
        Archive archive = new Archive().withDirectory(124, "40000000000");
        Archive.expectFault(archive.yard, "a directory with 4294967296 bytes", 6, 0);
        new Archive().with(156, 50).with(124, "40000000000").expectFault("a link with 4294967296 bytes", 6);
    }

    private static void theDirectory() {
        Archive check = new Archive();
        check.yard.alter(155, 0);
        Archive.expectFault(check.yard, "check", 3, 0);
        Archive.expectFault(new Archive().withDirectory(511, "x").yard, "mark", 4, 0);
        Archive.expectFault(new Archive().withDirectory(100, "8").yard, "number", 5, 0);
        Archive.expectFault(new Archive().withDirectory(156, "6").yard, "type", 6, 0);
    }
}
