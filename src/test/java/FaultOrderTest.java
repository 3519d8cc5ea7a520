import java.util.List;
import java.util.function.Consumer;

/** READING: which of several faults is told. */
public final class FaultOrderTest {
    /** How the file's entry gets faults 4 to 11, the first for 4. */
    private static final List<Consumer<Archive>> CHANGES = List.of(
            a -> a.with(257, 'x'),
            a -> a.with(100, 'x'),
            a -> a.with(156, 'x'),
            a -> a.with(0, '/'),
            a -> a.with(157, 'x'),
            a -> a.with(124, "00000003721"),
            a -> a.with(124, "00000003720"),
            a -> a.yard.alter(Archive.CONTENTS + 3, 1));

    public static void main(String[] args) {
        Expect.holds("at each header the first FAULT that fits", "one fault alone", FaultOrderTest::oneAlone);
        Expect.holds("at each header the first FAULT that fits", "each two of one header", FaultOrderTest::eachTwo);
        Expect.holds("at each header the first FAULT that fits", "the check before all others", FaultOrderTest::theCheck);
        Expect.holds("at each header the first FAULT that fits", "all of one header", FaultOrderTest::allOfThem);
        Expect.holds("block by block", "an earlier header before a lesser fault", FaultOrderTest::earlierHeaders);
        Expect.holds("block by block", "what is behind a fault is not looked at", FaultOrderTest::behindAFault);
        Expect.done();
    }

    private static void change(Archive archive, int fault) {
        CHANGES.get(fault - 4).accept(archive);
    }

    private static void oneAlone() {
        for (int fault = 4; fault <= 11; fault++) {
            Archive archive = new Archive();
            change(archive, fault);
            archive.expectFault("fault " + fault, fault);
        }
    }

    /** The second is made first: those of 9 and 10 stand at the same place, and 9's length is not all there either. */
    private static void eachTwo() {
        for (int first = 4; first <= 11; first++) {
            for (int second = first + 1; second <= 11; second++) {
                Archive archive = new Archive();
                change(archive, second);
                change(archive, first);
                archive.expectFault("faults " + first + " and " + second, first);
            }
        }
        Archive there = new Archive().with(124, "00000003721").cutTo(10240);
        there.yard.alter(Archive.CONTENTS + 2047, 1);
        there.expectFault("faults 9 and 11, all blocks there", 9);
    }

    private static void theCheck() {
        for (int fault = 4; fault <= 11; fault++) {
            Archive archive = new Archive();
            change(archive, fault);
            archive.yard.alter(Archive.HEADER + 155, 0);
            archive.expectFault("faults 3 and " + fault, 3);
        }
    }

    private static void allOfThem() {
        Archive archive = new Archive();
        for (int fault = 11; fault >= 4; fault--) {
            change(archive, fault);
            archive.expectFault("faults from " + fault + " on", fault);
        }
        archive.yard.alter(Archive.HEADER + 155, 0);
        archive.expectFault("faults from 3 on", 3);
    }

    /** Two files with a block of contents each, in blocks 0 to 3. */
    private static Yard twoFiles() {
        Yard yard = new Yard();
        yard.make(0, Yard.FILE, "a");
        yard.make(0, Yard.FILE, "b");
        yard.contents(1, 3, 3);
        yard.contents(2, 3, 3);
        yard.write();
        yard.remove(1);
        return yard;
    }

    private static void earlierHeaders() {
        Yard yard = twoFiles();
        yard.alter(1023, 1);
        yard.alter(1024, 'x');
        Archive.expectFault(yard, "11 before 3", 11, 0);
        yard.alter(1023, 0);
        Archive.expectFault(yard, "3 alone", 3, 2);
        yard.alter(1024, 'b');
        Archive.expectNodes(yard, "none", 3);
    }

    private static void behindAFault() {
        Yard yard = twoFiles();
        yard.alter(157, 'x');
        yard.check(0);
        Archive.expectFault(yard, "8, and good entries behind it", 8, 0);
        yard.size(512);
        Archive.expectFault(yard, "8, and nothing behind it", 8, 0);
    }
}
