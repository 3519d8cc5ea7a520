/**
 * A directory d in block 0, a file d/f of 3 bytes in blocks 1 and 2, the end in blocks 3 and 4; and a tree that is
 * another one than these tell, so that it is seen whether a read took it.
 */
final class Archive {
    static final int HEADER = 512;
    static final int CONTENTS = 1024;

    final Yard yard = new Yard();

    Archive() {
        int dir = yard.make(0, Yard.DIRECTORY, "d");
        int file = yard.make(dir, Yard.FILE, "f");
        yard.contents(file, 3, 9);
        yard.set(file, 1, 2, 3);
        yard.write();
        yard.remove(dir);
        yard.make(0, Yard.FILE, "other");
        yard.contents(1, 5, 5);
        yard.set(0, 4, 5, 6);
    }

    /** Byte i of the file's header is another one, and its check is right again. */
    Archive with(int i, int b) {
        yard.alter(HEADER + i, b);
        yard.check(1);
        return this;
    }

    Archive with(int i, String text) {
        yard.alter(HEADER + i, text);
        yard.check(1);
        return this;
    }

    /** As above, of the directory's header. */
    Archive withDirectory(int i, String text) {
        yard.alter(i, text);
        yard.check(0);
        return this;
    }

    Archive cutTo(int size) {
        yard.size(size);
        return this;
    }

    /** The fault is told, at that block, and all else stays. */
    static void expectFault(Yard yard, String what, int fault, int place) {
        String tree = yard.tree();
        String bytes = yard.bytes(0, yard.total(1));
        Expect.same(what, yard.read(), -fault);
        Expect.same("place of " + what, yard.place(), place);
        Expect.text("the tree after " + what, yard.tree(), tree);
        Expect.text("the bytes after " + what, yard.bytes(0, yard.total(1)), bytes);
    }

    static void expectNodes(Yard yard, String what, int nodes) {
        String bytes = yard.bytes(0, yard.total(1));
        Expect.same(what, yard.read(), nodes);
        Expect.same("place of " + what, yard.place(), Yard.NONE);
        Expect.same("nodes of " + what, yard.total(0), nodes);
        Expect.text("the bytes after " + what, yard.bytes(0, yard.total(1)), bytes);
    }

    /** A fault of the file's header. */
    void expectFault(String what, int fault) {
        expectFault(yard, what, fault, 1);
    }

    void expectBoth(String what) {
        expectNodes(yard, what, 3);
    }
}
