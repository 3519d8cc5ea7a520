/** READING, FAULTS 1, 2 and 9 to 11: what is there and what is not. */
public final class BlockFaultsTest {
    public static void main(String[] args) {
        Expect.holds("1 there is no whole block any more", "no bytes at all", BlockFaultsTest::noBytes);
        Expect.holds("1 there is no whole block any more", "less than one", BlockFaultsTest::lessThanABlock);
        Expect.holds("1 there is no whole block any more", "behind entries", BlockFaultsTest::noBlockBehindEntries);
        Expect.holds("1 there is no whole block any more", "behind 20 entries", BlockFaultsTest::twentyEntries);
        Expect.holds("2 a block of zeros without a second (whole) one behind it", "none", BlockFaultsTest::noSecond);
        Expect.holds("2 a block of zeros without a second (whole) one behind it", "no whole one", BlockFaultsTest::noWholeSecond);
        Expect.holds("2 a block of zeros without a second (whole) one behind it", "not of zeros", BlockFaultsTest::noZeros);
        Expect.holds("2 a block of zeros without a second (whole) one behind it", "not a fault 3", BlockFaultsTest::zerosHaveNoCheck);
        Expect.holds("2 a block of zeros", "nearly of zeros", BlockFaultsTest::nearlyZeros);
        Expect.holds("2 a block of zeros", "the last of 20", BlockFaultsTest::theLastOfTwenty);
        Expect.holds("9 it would be node number 30", "nodes of the tree that was do not count", BlockFaultsTest::inPlaceOfAFullTree);
        Expect.holds("contents longer than 2000", "2000", BlockFaultsTest::contentsOf2000);
        Expect.holds("contents longer than 2000", "2001", BlockFaultsTest::contentsOf2001);
        Expect.holds("contents longer than 2000", "far longer", BlockFaultsTest::farLonger);
        Expect.holds("10 its blocks are not all there", "all of them are", BlockFaultsTest::allBlocks);
        Expect.holds("10 its blocks are not all there", "a byte is missing", BlockFaultsTest::aByteIsMissing);
        Expect.holds("10 its blocks are not all there", "no contents need none", BlockFaultsTest::noContents);
        Expect.holds("11 behind the contents in the last of these there is another byte than zero", BlockFaultsTest::bytesBehind);
        Expect.holds("11 behind the contents in the last of these", "not behind whole blocks", BlockFaultsTest::wholeBlocks);
        Expect.holds("11 behind the contents in the last of these", "not in the contents", BlockFaultsTest::inTheContents);
        Expect.holds("11 behind the contents in the last of these", "of four", BlockFaultsTest::theLastOfFour);
        Expect.done();
    }

    private static Yard withFile(int length) {
        Yard yard = new Yard();
        yard.make(0, Yard.FILE, "f");
        yard.contents(1, length, 1);
        yard.write();
        yard.make(0, Yard.FILE, "g");
        return yard;
    }

    private static void noBytes() {
        Archive.expectFault(new Yard(), "a new object", 1, 0);
        Archive.expectFault(new Archive().cutTo(0).yard, "cut to none", 1, 0);
    }

    private static void lessThanABlock() {
        for (int size : new int[] {1, 511}) {
            Archive.expectFault(new Archive().cutTo(size).yard, "of " + size, 1, 0);
            Yard zeros = new Yard();
            zeros.size(size);
            Archive.expectFault(zeros, "zeros of " + size, 1, 0);
        }
    }

    private static void noBlockBehindEntries() {
        for (int size : new int[] {512, 513, 1023}) {
            Archive.expectFault(new Archive().cutTo(size).yard, "behind a directory, " + size, 1, 1);
        }
        for (int size : new int[] {1536, 1537, 2047}) {
            Archive.expectFault(new Archive().cutTo(size).yard, "behind contents, " + size, 1, 3);
        }
    }

    /** Eighteen entries are written, two more are put in place of the end. */
    private static void twentyEntries() {
        Yard yard = new Yard();
        for (int i = 0; i < 18; i++) {
            yard.make(0, Yard.FILE, 'a' + i, 1, 0);
        }
        yard.write();
        String header = yard.bytes(1, 511);
        for (int block = 18; block < 20; block++) {
            yard.alter(block * 512, "" + (char) ('A' + block) + header);
            yard.check(block);
        }
        Archive.expectFault(yard, "20 entries and no end", 1, 20);
    }

    private static void noSecond() {
        Yard alone = new Yard();
        alone.size(512);
        Archive.expectFault(alone, "one block alone", 2, 0);
        Archive.expectFault(new Archive().cutTo(2048).yard, "behind entries", 2, 3);
    }

    private static void noWholeSecond() {
        for (int more : new int[] {1, 511}) {
            Yard alone = new Yard();
            alone.size(512 + more);
            Archive.expectFault(alone, "a block and " + more, 2, 0);
            Archive.expectFault(new Archive().cutTo(2048 + more).yard, "behind entries, and " + more, 2, 3);
        }
        Yard two = new Yard();
        two.size(1024);
        Archive.expectNodes(two, "two blocks", 1);
        new Archive().cutTo(2560).expectBoth("behind entries");
    }

    private static void noZeros() {
        for (int i : new int[] {2048, 2048 + 148, 2559}) {
            Archive archive = new Archive();
            archive.yard.alter(i, 1);
            Archive.expectFault(archive.yard, "byte " + i, 2, 3);
            archive.yard.alter(i, 0);
            archive.expectBoth("zeros again");
        }
        Archive entry = new Archive();
        entry.yard.size(3584);
        entry.yard.alter(2048, "g" + entry.yard.bytes(513, 511));
        Archive.expectFault(entry.yard, "an entry behind it", 2, 3);
    }

    private static void zerosHaveNoCheck() {
        Yard yard = new Yard();
        yard.size(1024);
        yard.alter(512, 1);
        Archive.expectFault(yard, "a block of zeros", 2, 0);
        yard.alter(0, 1);
        Archive.expectFault(yard, "no block of zeros", 3, 0);
    }

    private static void nearlyZeros() {
        for (int i : new int[] {1536, 1536 + 155, 2047}) {
            Archive archive = new Archive();
            archive.yard.alter(i, 1);
            Archive.expectFault(archive.yard, "byte " + i, 3, 3);
        }
    }

    private static void theLastOfTwenty() {
        Yard yard = new Yard();
        for (int i = 0; i < 18; i++) {
            yard.make(0, Yard.FILE, 'a' + i, 1, 0);
        }
        yard.write();
        yard.alter(18 * 512, "A" + yard.bytes(1, 511));
        yard.check(18);
        Archive.expectFault(yard, "19 entries and one block", 2, 19);
    }

    /** The bytes at hand hold 20 entries at most, so that none of them can be node number 30. */
    private static void inPlaceOfAFullTree() {
        Yard yard = new Yard();
        for (int i = 0; i < 18; i++) {
            yard.make(0, Yard.FILE, 'a' + i, 1, 0);
        }
        yard.write();
        for (int i = 18; i < 29; i++) {
            yard.make(0, Yard.FILE, 'A' + i, 1, 0);
        }
        Expect.same("nodes before", yard.total(0), 30);
        Archive.expectNodes(yard, "18 entries", 19);
    }

    private static void contentsOf2000() {
        Yard yard = withFile(2000);
        Archive.expectNodes(yard, "2000", 2);
        Expect.same("how long", yard.node(1, 6), 2000);
        Expect.same("the last byte", yard.part(1, 1, 1999), (1 + 31 * 1999) % 256);
    }

    private static void contentsOf2001() {
        Yard yard = withFile(2000);
        yard.alter(124, "00000003721");
        yard.check(0);
        Archive.expectFault(yard, "2001, all of them there", 9, 0);
        new Archive().with(124, "00000003721").expectFault("2001, not there", 9);
    }

    private static void farLonger() {
        for (String digits : new String[] {"00000004000", "00000024000", "17777777777", "20000000000", "37777777777", "40000000000",
            "40000000003", "77777777777"}) {
            new Archive().with(124, digits).expectFault("of " + digits, 9);
        }
    }

    private static void allBlocks() {
        int[] lengths = {1, 511, 512, 513, 1024, 1025, 1536, 1537, 2000};
        for (int length : lengths) {
            Yard yard = withFile(length);
            int blocks = yard.total(1) / 512;
            yard.size((blocks - 2) * 512);
            Archive.expectFault(yard, "no end behind " + length, 1, blocks - 2);
        }
        Archive.expectFault(new Archive().with(124, "00000003000").yard, "1536, with the end as contents", 1, 5);
    }

    private static void aByteIsMissing() {
        int[] lengths = {1, 511, 512, 513, 1024, 1025, 1536, 1537, 2000};
        for (int length : lengths) {
            Yard yard = withFile(length);
            yard.size(yard.total(1) - 1025);
            Archive.expectFault(yard, "a byte less behind " + length, 10, 0);
            yard.size(512);
            Archive.expectFault(yard, "none of " + length, 10, 0);
        }
        new Archive().with(124, "00000003001").expectFault("1537, but three blocks are there", 10);
    }

    private static void noContents() {
        Yard yard = withFile(0);
        yard.size(512);
        Archive.expectFault(yard, "a file", 1, 1);
    }

    private static void bytesBehind() {
        for (int i = 3; i < 512; i++) {
            Archive archive = new Archive();
            archive.yard.alter(Archive.CONTENTS + i, 1);
            archive.expectFault("byte " + i, 11);
        }
        Archive high = new Archive();
        high.yard.alter(Archive.CONTENTS + 511, 255);
        high.expectFault("255", 11);
    }

    private static void wholeBlocks() {
        for (int length : new int[] {512, 1024, 1536}) {
            Yard yard = withFile(length);
            Archive.expectNodes(yard, "of " + length, 2);
            yard.alter(512 + length, 1);
            Archive.expectFault(yard, "a byte behind " + length + " is the next header's", 3, 1 + length / 512);
        }
    }

    private static void inTheContents() {
        for (int i = 0; i < 3; i++) {
            Archive archive = new Archive();
            archive.yard.alter(Archive.CONTENTS + i, 255);
            archive.expectBoth("byte " + i);
            Expect.same("it is in the tree", archive.yard.part(2, 1, i), 255);
        }
    }

    private static void theLastOfFour() {
        for (int i : new int[] {2000, 2001, 2047}) {
            Yard yard = withFile(2000);
            yard.alter(512 + i, 1);
            Archive.expectFault(yard, "byte " + i, 11, 0);
        }
        Yard yard = withFile(2000);
        yard.alter(512 + 1999, 0);
        Archive.expectNodes(yard, "the last of the contents", 2);
    }
}
