/** Promise 6. */
public final class SetTest {
    public static void main(String[] args) {
        Expect.holds("Mode, owner and time of a node", SetTest::ofEachKind);
        Expect.holds("a MODE 0 .. 4095", "the last that are", SetTest::modes);
        Expect.holds("a MODE 0 .. 4095", "the first that are not", SetTest::noModes);
        Expect.holds("an OWNER 0 .. 2097151", "the last that are", SetTest::owners);
        Expect.holds("an OWNER 0 .. 2097151", "the first that are not", SetTest::noOwners);
        Expect.holds("a TIME (0 or more)", "the last that are", SetTest::times);
        Expect.holds("a TIME (0 or more)", "the first that is not", SetTest::noTimes);
        Expect.holds("there is no such node", SetTest::noSuchNodes);
        Expect.holds("(the root's are never written)", SetTest::theRootIsNotWritten);
        Expect.holds("(the root's are never written)", "nor read", SetTest::theRootIsNotRead);
        Expect.holds("A call that throws changes nothing", SetTest::nothingChanges);
        Expect.done();
    }

    private static Yard withFile() {
        Yard yard = new Yard();
        yard.make(0, Yard.FILE, "f");
        return yard;
    }

    private static void expectSet(int mode, int owner, int time) {
        Yard yard = withFile();
        yard.set(1, mode, owner, time);
        Expect.same("mode", yard.node(1, 3), mode);
        Expect.same("owner", yard.node(1, 4), owner);
        Expect.same("time", yard.node(1, 5), time);
        Expect.same("mode of the root", yard.node(0, 3), 0);
        yard.set(1, 0, 0, 0);
        Expect.same("mode 0 again", yard.node(1, 3), 0);
        Expect.same("owner 0 again", yard.node(1, 4), 0);
        Expect.same("time 0 again", yard.node(1, 5), 0);
    }

    private static void ofEachKind() {
        Yard yard = withFile();
        yard.make(0, Yard.DIRECTORY, "d");
        yard.make(0, Yard.SYMBOLIC_LINK, "s");
        yard.make(0, Yard.HARD_LINK, "h", 1);
        for (int node = 0; node < 5; node++) {
            yard.set(node, 10 + node, 20 + node, 30 + node);
        }
        for (int node = 0; node < 5; node++) {
            Expect.same("mode", yard.node(node, 3), 10 + node);
            Expect.same("owner", yard.node(node, 4), 20 + node);
            Expect.same("time", yard.node(node, 5), 30 + node);
        }
    }

    private static void modes() {
        for (int mode : new int[] {0, 1, 4094, 4095}) {
            expectSet(mode, 5, 6);
        }
    }

    private static void noModes() {
        for (int mode : new int[] {-1, 4096, Integer.MIN_VALUE, Integer.MAX_VALUE}) {
            Expect.refused(withFile(), "mode " + mode, y -> y.set(1, mode, 5, 6));
        }
    }

    private static void owners() {
        for (int owner : new int[] {0, 1, 2097150, 2097151}) {
            expectSet(5, owner, 6);
        }
    }

    private static void noOwners() {
        for (int owner : new int[] {-1, 2097152, Integer.MIN_VALUE, Integer.MAX_VALUE}) {
            Expect.refused(withFile(), "owner " + owner, y -> y.set(1, 5, owner, 6));
        }
    }

    private static void times() {
        for (int time : new int[] {0, 1, Integer.MAX_VALUE - 1, Integer.MAX_VALUE}) {
            expectSet(5, 6, time);
        }
    }

    private static void noTimes() {
        for (int time : new int[] {-1, -2, Integer.MIN_VALUE}) {
            Expect.refused(withFile(), "time " + time, y -> y.set(1, 5, 6, time));
        }
    }

    private static void noSuchNodes() {
        for (int node : new int[] {-1, 2, 29, 30, Integer.MIN_VALUE, Integer.MAX_VALUE}) {
            Expect.refused(withFile(), "node " + node, y -> y.set(node, 1, 2, 3));
        }
    }

    private static void theRootIsNotWritten() {
        Yard yard = new Yard();
        yard.set(0, 4095, 2097151, Integer.MAX_VALUE);
        Expect.same("blocks", yard.write(), 2);
        Expect.text("bytes", yard.bytes(0, 1024), Yard.repeat('\0', 1024));
        Expect.same("its mode stays", yard.node(0, 3), 4095);
        Expect.same("its owner stays", yard.node(0, 4), 2097151);
        Expect.same("its time stays", yard.node(0, 5), Integer.MAX_VALUE);
    }

    private static void theRootIsNotRead() {
        Yard yard = withFile();
        yard.set(1, 1, 2, 3);
        yard.write();
        for (int round = 0; round < 2; round++) {
            yard.set(0, 4, 5, 6);
            Expect.same("nodes", yard.read(), 2);
            for (int what = 3; what <= 5; what++) {
                Expect.same("a tree that is read tells nothing of the root: " + what, yard.node(0, what), 0);
                Expect.same("but of the file: " + what, yard.node(1, what), what - 2);
            }
        }
    }

    private static void nothingChanges() {
        Yard yard = withFile();
        yard.set(1, 1, 2, 3);
        yard.set(0, 4, 5, 6);
        yard.write();
        yard.alter(0, 'x');
        yard.read();
        Expect.refused(yard, "mode", y -> y.set(1, 4096, 7, 7));
        Expect.refused(yard, "owner", y -> y.set(1, 7, 2097152, 7));
        Expect.refused(yard, "time", y -> y.set(1, 7, 7, -1));
        Expect.refused(yard, "time of the root", y -> y.set(0, 7, 7, -1));
        Expect.refused(yard, "node", y -> y.set(2, 7, 7, 7));
    }
}
