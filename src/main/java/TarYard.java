import java.util.Arrays;

/** A tree of files, and archives of it in blocks of 512 bytes; ../shared/DOC.md says what each call answers. */
public final class TarYard {
    public static final int NONE = -1;

    private static final int DIRECTORY = 0;
    private static final int FILE = 1;
    private static final int SYMBOLIC_LINK = 2;
    private static final int HARD_LINK = 3;

    private static final int MOST_NODES = 30;
    private static final int MOST_NAME = 100;
    private static final int MOST_TARGET = 100;
    private static final int MOST_CONTENTS = 2000;
    private static final int MOST_LETTERS = 8;
    private static final int MOST_MODE = 4095;
    private static final int MOST_OWNER = 2097151;
    private static final int MOST_TIME = 2147483647;

    private static final int SLASH = 47;
    private static final int DOT = 46;
    private static final int FIRST_LETTER = 33;
    private static final int LAST_LETTER = 126;

    private static final int BLOCK = 512;
    private static final int MOST_BLOCKS = 20;
    private static final int MOST_BYTES = MOST_BLOCKS * BLOCK;

    private static final int SECOND_PART_AT = 0;
    private static final int SECOND_PART = 100;
    private static final int MODE_AT = 100;
    private static final int OWNER_AT = 108;
    private static final int GROUP_AT = 116;
    private static final int LENGTH_AT = 124;
    private static final int TIME_AT = 136;
    private static final int CHECK_AT = 148;
    private static final int CHECK_DIGITS = 6;
    private static final int CHECK_END = 156;
    private static final int TYPE_AT = 156;
    private static final int TARGET_AT = 157;
    private static final int MARK_AT = 257;
    private static final int MARK_END = 265;
    private static final int MAJOR_AT = 329;
    private static final int MINOR_AT = 337;
    private static final int FIRST_PART_AT = 345;
    private static final int FIRST_PART = 155;
    private static final int FIRST_PART_END = 500;
    private static final int SHORT_DIGITS = 7;
    private static final int LONG_DIGITS = 11;
    private static final int SPACE = 32;
    private static final int DIGIT_ZERO = 48;
    private static final int DIGIT_SEVEN = 55;

    private final Tape tape;
    private final Writer writer;
    private final Reader reader;
    private final Row word;
    private Tree tree;
    /** A read builds its tree here, so that a fault leaves the other one as it is. */
    private Tree spare;
    private int faultPlace;

    public TarYard() {
        tape = new Tape();
        writer = new Writer(tape);
        reader = new Reader(tape);
        word = new Row();
        tree = new Tree();
        spare = new Tree();
        faultPlace = NONE;
    }

    public int make(int in, int kind, long w, int n, int of) throws IllegalArgumentException, IllegalStateException {
        if (kind < DIRECTORY || kind > HARD_LINK) {
            throw new IllegalArgumentException("there is no such kind");
        }
        if (!tree.isOfKind(in, DIRECTORY)) {
            throw new IllegalArgumentException("a node lies in a directory");
        }
        if (n < 1 || n > MOST_LETTERS) {
            throw new IllegalArgumentException("a name is made with 1 to 8 characters");
        }
        word.resize(0);
        word.addLetters(w, n);
        refuseName(in);
        if (kind == HARD_LINK && !tree.isOfKind(of, FILE)) {
            throw new IllegalArgumentException("a hard link stands for a file");
        }
        if (tree.count >= MOST_NODES) {
            throw new IllegalStateException("there are 30 nodes");
        }
        return tree.add(in, kind, kind == HARD_LINK ? of : NONE, word, 0, n);
    }

    public int rename(int node, long w, int n) throws IllegalArgumentException, IllegalStateException {
        Node renamed = known(node);
        if (node == 0) {
            throw new IllegalArgumentException("the root has no name");
        }
        if (n < 1 || n > MOST_LETTERS) {
            throw new IllegalArgumentException("a name gets 1 to 8 characters more");
        }
        word.copySlice(renamed.name, 0, renamed.name.length);
        word.addLetters(w, n);
        refuseName(renamed.dir);
        if (word.length > MOST_NAME) {
            throw new IllegalStateException("a name has at most 100 characters");
        }
        renamed.name.addLetters(w, n);
        return renamed.name.length;
    }

    public int fill(int node, long w, int n) throws IllegalArgumentException, IllegalStateException {
        Node filled = known(node);
        if (filled.kind != FILE && filled.kind != SYMBOLIC_LINK) {
            throw new IllegalArgumentException("neither a file nor a symbolic link");
        }
        if (n < 0 || n > MOST_LETTERS) {
            throw new IllegalArgumentException("0 to 8 bytes are added");
        }
        word.resize(0);
        word.addLetters(w, n);
        if (filled.kind == SYMBOLIC_LINK && !word.isTarget()) {
            throw new IllegalArgumentException("a target has characters 33 to 126");
        }
        if (filled.body.length + n > (filled.kind == FILE ? MOST_CONTENTS : MOST_TARGET)) {
            throw new IllegalStateException("it would be too long");
        }
        filled.body.addLetters(w, n);
        return filled.body.length;
    }

    public void contents(int node, int length, int seed) throws IllegalArgumentException {
        Node file = known(node);
        if (file.kind != FILE) {
            throw new IllegalArgumentException("only a file has contents");
        }
        if (length < 0 || length > MOST_CONTENTS || seed < 0 || seed > 255) {
            throw new IllegalArgumentException("a length is 0 to 2000, a seed 0 to 255");
        }
        file.body.resize(length);
        for (int i = 0; i < length; i++) {
            file.body.put(i, seed + 31 * i);
        }
    }

    public void set(int node, int mode, int owner, int time) throws IllegalArgumentException {
        Node changed = known(node);
        if (mode < 0 || mode > MOST_MODE || owner < 0 || owner > MOST_OWNER || time < 0) {
            throw new IllegalArgumentException("no such mode, owner or time");
        }
        changed.mode = mode;
        changed.owner = owner;
        changed.time = time;
    }

    public int remove(int node) throws IllegalArgumentException {
        if (node == 0 || !tree.has(node)) {
            throw new IllegalArgumentException("no such node, or the root");
        }
        return tree.drop(node);
    }

    public int write() throws UnsupportedOperationException {
        int blocks = writer.blocksFor(tree);
        if (blocks == NONE) {
            throw new UnsupportedOperationException("a path or the whole tree is too long");
        }
        writer.putTree(tree, blocks);
        return blocks;
    }

    public int read() {
        int answer = reader.takeTree(spare);
        if (answer < 0) {
            faultPlace = reader.block;
            return answer;
        }
        Tree former = tree;
        tree = spare;
        spare = former;
        faultPlace = NONE;
        return answer;
    }

    public int place() {
        return faultPlace;
    }

    public int alter(int i, int b) throws IllegalArgumentException {
        int was = tape.bytes.at(i);
        if (was == NONE || b < 0 || b > 255) {
            throw new IllegalArgumentException("no such byte at hand, or no byte");
        }
        tape.bytes.put(i, b);
        return was;
    }

    public int check(int b) throws IllegalArgumentException {
        if (b < 0 || b >= tape.wholeBlocks()) {
            throw new IllegalArgumentException("there is no such whole block");
        }
        return tape.putCheck(b);
    }

    public void size(int n) throws IllegalArgumentException {
        if (n < 0 || n > MOST_BYTES) {
            throw new IllegalArgumentException("0 to 10240 bytes are at hand");
        }
        tape.bytes.resize(n);
    }

    public int hand(int i) {
        return tape.bytes.at(i);
    }

    public int node(int node, int what) throws IllegalArgumentException {
        Node told = known(node);
        switch (what) {
            case 0:
                return told.kind;
            case 1:
                return told.dir;
            case 2:
                return told.name.length;
            case 3:
                return told.mode;
            case 4:
                return told.owner;
            case 5:
                return told.time;
            case 6:
                return told.body.length;
            case 7:
                return told.file;
            default:
                throw new IllegalArgumentException("a node tells 0 to 7");
        }
    }

    public int part(int node, int what, int i) throws IllegalArgumentException {
        Node told = known(node);
        if (what != 0 && what != 1) {
            throw new IllegalArgumentException("a node has parts 0 and 1");
        }
        return what == 0 ? told.name.at(i) : told.body.at(i);
    }

    public int total(int what) throws IllegalArgumentException {
        switch (what) {
            case 0:
                return tree.count;
            case 1:
                return tape.bytes.length;
            case 2:
                return tree.longestPath();
            default:
                throw new IllegalArgumentException("there are totals 0 to 2");
        }
    }

    private Node known(int number) {
        if (!tree.has(number)) {
            throw new IllegalArgumentException("there is no such node");
        }
        return tree.nodes[number];
    }

    /** Lets a word longer than 100 pass: the document has another exception for it. */
    private void refuseName(int dir) {
        if (!word.isNameOfAnyLength(0, word.length)) {
            throw new IllegalArgumentException("that is no name");
        }
        if (tree.childNamed(dir, word, 0, word.length) != NONE) {
            throw new IllegalArgumentException("that name is there");
        }
    }

    /** Bytes one behind another: a name, contents, a target, a path, all that is at hand. */
    private static final class Row {
        // Few steps of growth: a row is never given back, and most rows stay short.
        private static final int SMALL = 16;
        private static final int MIDDLE = 128;
        private static final int LARGE = 2048;

        private byte[] bytes = new byte[SMALL];
        int length = 0;

        int at(int i) {
            return i >= 0 && i < length ? bytes[i] & 255 : NONE;
        }

        void put(int i, int b) {
            if (i >= 0 && i < length) {
                bytes[i] = (byte) b;
            }
        }

        /** What is added is zeros, whatever stood there before the row was cut. */
        void resize(int n) {
            int wanted = Math.max(0, Math.min(n, MOST_BYTES));
            if (wanted > bytes.length) {
                bytes = Arrays.copyOf(bytes, wanted <= MIDDLE ? MIDDLE : wanted <= LARGE ? LARGE : MOST_BYTES);
            }
            for (int i = length; i < wanted; i++) {
                bytes[i] = 0;
            }
            length = wanted;
        }

        void addLetters(long w, int n) {
            int old = length;
            resize(old + n);
            for (int i = 0; i < n && i < MOST_LETTERS; i++) {
                put(old + i, (int) (w >>> (8 * i)));
            }
        }

        void copySlice(Row other, int from, int to) {
            resize(to - from);
            for (int i = 0; i < length; i++) {
                put(i, other.at(from + i));
            }
        }

        void putAll(int at, Row other) {
            for (int i = 0; i < other.length; i++) {
                put(at + i, other.at(i));
            }
        }

        boolean isSlice(Row other, int from, int to) {
            if (from < 0 || to > other.length || length != to - from) {
                return false;
            }
            for (int i = 0; i < length; i++) {
                if (bytes[i] != other.bytes[from + i]) {
                    return false;
                }
            }
            return true;
        }

        /** Below 0 if this row comes before the other one, above 0 if it comes behind. */
        int order(Row other) {
            int shared = Math.min(length, other.length);
            for (int i = 0; i < shared; i++) {
                if (at(i) != other.at(i)) {
                    return at(i) - other.at(i);
                }
            }
            return length - other.length;
        }

        boolean isTarget() {
            for (int i = 0; i < length; i++) {
                if (at(i) < FIRST_LETTER || at(i) > LAST_LETTER) {
                    return false;
                }
            }
            return true;
        }

        boolean isNameOfAnyLength(int from, int to) {
            boolean onlyDots = true;
            for (int i = from; i < to; i++) {
                int letter = at(i);
                if (letter < FIRST_LETTER || letter > LAST_LETTER || letter == SLASH) {
                    return false;
                }
                onlyDots = onlyDots && letter == DOT;
            }
            return to > from && !(onlyDots && to - from <= 2);
        }

        int lastSlash(int before) {
            for (int i = before - 1; i >= 0; i--) {
                if (at(i) == SLASH) {
                    return i;
                }
            }
            return NONE;
        }
    }

    private static final class Node {
        final Row name = new Row();
        /** The contents of a file, the target of a symbolic link; empty for others. */
        final Row body = new Row();
        int kind = DIRECTORY;
        int dir = NONE;
        int file = NONE;
        int mode = 0;
        int owner = 0;
        int time = 0;

        void begin(int newKind, int newDir, int newFile) {
            name.resize(0);
            body.resize(0);
            kind = newKind;
            dir = newDir;
            file = newFile;
            mode = 0;
            owner = 0;
            time = 0;
        }

        int contentsLength() {
            return kind == FILE ? body.length : 0;
        }
    }

    /** A directory's number is lower than those of its nodes, a file's lower than those of its hard links. */
    private static final class Tree {
        final Node[] nodes = new Node[MOST_NODES];
        int count = 1;
        private final int[] newNumbers = new int[MOST_NODES];

        Tree() {
            for (int i = 0; i < MOST_NODES; i++) {
                nodes[i] = new Node();
            }
        }

        void clear() {
            nodes[0].begin(DIRECTORY, NONE, NONE);
            count = 1;
        }

        boolean has(int number) {
            return number >= 0 && number < count;
        }

        boolean isOfKind(int number, int kind) {
            return number >= 0 && number < count && nodes[number].kind == kind;
        }

        int childNamed(int dir, Row row, int from, int to) {
            for (int i = 1; i < count; i++) {
                if (nodes[i].dir == dir && nodes[i].name.isSlice(row, from, to)) {
                    return i;
                }
            }
            return NONE;
        }

        /** The node of the path that ends before an index; the last 47 of a directory's is not part of it here. */
        int lookUp(Row path, int end) {
            int at = 0;
            int from = 0;
            for (int i = 0; i <= end && at != NONE; i++) {
                if (i == end || path.at(i) == SLASH) {
                    at = childNamed(at, path, from, i);
                    from = i + 1;
                }
            }
            return at;
        }

        int add(int dir, int kind, int file, Row row, int from, int to) {
            if (count >= MOST_NODES) {
                return NONE;
            }
            nodes[count].begin(kind, dir, file);
            nodes[count].name.copySlice(row, from, to);
            count++;
            return count - 1;
        }

        int drop(int number) {
            int kept = 1;
            newNumbers[0] = 0;
            for (int i = 1; i < count; i++) {
                if (i == number || isGone(nodes[i].dir) || isGone(nodes[i].file)) {
                    newNumbers[i] = NONE;
                } else {
                    newNumbers[i] = kept;
                    kept++;
                }
            }
            int gone = count - kept;
            for (int i = 1; i < count; i++) {
                nodes[i].dir = newNumber(nodes[i].dir);
                nodes[i].file = newNumber(nodes[i].file);
            }
            closeGaps();
            count = kept;
            return gone;
        }

        private boolean isGone(int number) {
            return has(number) && newNumbers[number] == NONE;
        }

        private int newNumber(int number) {
            return has(number) ? newNumbers[number] : NONE;
        }

        /** Swaps instead of overwriting, so that the rows of what is gone are used again. */
        private void closeGaps() {
            for (int i = 1; i < count; i++) {
                int to = newNumbers[i];
                if (has(to)) {
                    Node moved = nodes[i];
                    nodes[i] = nodes[to];
                    nodes[to] = moved;
                }
            }
        }

        int pathLength(int number) {
            int length = isOfKind(number, DIRECTORY) ? 1 : 0;
            int at = number;
            for (int level = 0; level < MOST_NODES && at > 0 && has(at); level++) {
                length += nodes[at].name.length + (level > 0 ? 1 : 0);
                at = nodes[at].dir;
            }
            return length;
        }

        int longestPath() {
            int longest = 0;
            for (int i = 1; i < count; i++) {
                longest = Math.max(longest, pathLength(i));
            }
            return longest;
        }

        /** From its end on: the way up is the one that a node knows. */
        void spellPath(int number, Row into) {
            into.resize(pathLength(number));
            int from = into.length;
            if (isOfKind(number, DIRECTORY)) {
                from--;
                into.put(from, SLASH);
            }
            int at = number;
            for (int level = 0; level < MOST_NODES && at > 0 && has(at); level++) {
                if (level > 0) {
                    from--;
                    into.put(from, SLASH);
                }
                from -= nodes[at].name.length;
                into.putAll(from, nodes[at].name);
                at = nodes[at].dir;
            }
        }

        /** The node that would be written next if hard links were written where they lie. */
        int follower(int number) {
            int next = nextChild(number, NONE);
            int at = number;
            for (int level = 0; level < MOST_NODES && next == NONE && at > 0 && has(at); level++) {
                int dir = nodes[at].dir;
                next = nextChild(dir, at);
                at = dir;
            }
            return next;
        }

        private int nextChild(int dir, int behind) {
            int next = NONE;
            for (int i = 1; i < count; i++) {
                if (nodes[i].dir == dir && comesBehind(i, behind) && (next == NONE || comesBehind(next, i))) {
                    next = i;
                }
            }
            return next;
        }

        private boolean comesBehind(int number, int other) {
            return !has(other) || (has(number) && nodes[number].name.order(nodes[other].name) > 0);
        }
    }

    /** The bytes at hand, and how numbers and the CHECK stand in them. */
    private static final class Tape {
        private static final byte[] MARK = {117, 115, 116, 97, 114, 0, 48, 48};

        final Row bytes = new Row();

        int wholeBlocks() {
            return bytes.length / BLOCK;
        }

        static int blocksOf(int contentsLength) {
            return (contentsLength + BLOCK - 1) / BLOCK;
        }

        boolean isZeros(int from, int to) {
            for (int i = from; i < to; i++) {
                if (bytes.at(i) != 0) {
                    return false;
                }
            }
            return true;
        }

        boolean isBlockOfZeros(int block) {
            return block < wholeBlocks() && isZeros(block * BLOCK, block * BLOCK + BLOCK);
        }

        void putOctal(int from, int digits, int number) {
            int rest = number;
            for (int i = digits - 1; i >= 0; i--) {
                bytes.put(from + i, DIGIT_ZERO + (rest & 7));
                rest = rest >>> 3;
            }
            bytes.put(from + digits, 0);
        }

        /** NONE if it is not so many octal digits and a zero. */
        long octal(int from, int digits) {
            long number = 0;
            for (int i = 0; i < digits; i++) {
                int digit = bytes.at(from + i);
                if (digit < DIGIT_ZERO || digit > DIGIT_SEVEN) {
                    return NONE;
                }
                number = number * 8 + (digit - DIGIT_ZERO);
            }
            return bytes.at(from + digits) == 0 ? number : NONE;
        }

        void putMark(int from) {
            for (int i = 0; i < MARK.length; i++) {
                bytes.put(from + i, MARK[i]);
            }
        }

        boolean hasMark(int from) {
            for (int i = 0; i < MARK.length; i++) {
                if (bytes.at(from + i) != MARK[i]) {
                    return false;
                }
            }
            return true;
        }

        int sum(int block) {
            int sum = 0;
            for (int i = 0; i < BLOCK; i++) {
                sum += i >= CHECK_AT && i < CHECK_END ? SPACE : bytes.at(block * BLOCK + i);
            }
            return sum;
        }

        int putCheck(int block) {
            int sum = sum(block);
            putOctal(block * BLOCK + CHECK_AT, CHECK_DIGITS, sum);
            bytes.put(block * BLOCK + CHECK_END - 1, SPACE);
            return sum;
        }

        boolean hasCheck(int block) {
            return octal(block * BLOCK + CHECK_AT, CHECK_DIGITS) == sum(block)
                    && bytes.at(block * BLOCK + CHECK_END - 1) == SPACE;
        }
    }

    private static final class Types {
        private static final int FILE_TYPE = 48;
        private static final int HARD_LINK_TYPE = 49;
        private static final int SYMBOLIC_LINK_TYPE = 50;
        private static final int DIRECTORY_TYPE = 53;

        static int typeOf(int kind) {
            switch (kind) {
                case FILE:
                    return FILE_TYPE;
                case HARD_LINK:
                    return HARD_LINK_TYPE;
                case SYMBOLIC_LINK:
                    return SYMBOLIC_LINK_TYPE;
                default:
                    return DIRECTORY_TYPE;
            }
        }

        static int kindOf(int type) {
            switch (type) {
                case FILE_TYPE:
                    return FILE;
                case HARD_LINK_TYPE:
                    return HARD_LINK;
                case SYMBOLIC_LINK_TYPE:
                    return SYMBOLIC_LINK;
                case DIRECTORY_TYPE:
                    return DIRECTORY;
                default:
                    return NONE;
            }
        }
    }

    private static final class Writer {
        private final Tape tape;
        private final Row path = new Row();
        private int block = 0;

        Writer(Tape tape) {
            this.tape = tape;
        }

        /** NONE if the tree can't be written: asked before a byte at hand is touched. */
        int blocksFor(Tree tree) {
            int blocks = 2;
            for (int i = 1; i < tree.count; i++) {
                if (!isTellable(tree, i)) {
                    return NONE;
                }
                blocks += 1 + Tape.blocksOf(tree.nodes[i].contentsLength());
            }
            return blocks <= MOST_BLOCKS ? blocks : NONE;
        }

        private boolean isTellable(Tree tree, int number) {
            if (tree.pathLength(number) > SECOND_PART) {
                tree.spellPath(number, path);
                int cut = cutOfPath();
                if (cut == NONE || cut > FIRST_PART) {
                    return false;
                }
            }
            return tree.pathLength(tree.nodes[number].file) <= SECOND_PART;
        }

        private int cutOfPath() {
            for (int i = Math.max(0, path.length - 1 - SECOND_PART); i < path.length - 1; i++) {
                if (path.at(i) == SLASH) {
                    return i;
                }
            }
            return NONE;
        }

        void putTree(Tree tree, int blocks) {
            tape.bytes.resize(0);
            tape.bytes.resize(blocks * BLOCK);
            block = 0;
            putEntries(tree, false);
            putEntries(tree, true);
        }

        private void putEntries(Tree tree, boolean hardLinks) {
            int at = 0;
            for (int step = 1; step < tree.count && at != NONE; step++) {
                at = tree.follower(at);
                if (tree.has(at) && tree.isOfKind(at, HARD_LINK) == hardLinks) {
                    putHeader(tree, at);
                    putContents(tree.nodes[at]);
                }
            }
        }

        private void putHeader(Tree tree, int number) {
            Node node = tree.nodes[number];
            int from = block * BLOCK;
            tree.spellPath(number, path);
            putPath(from);
            tape.putOctal(from + MODE_AT, SHORT_DIGITS, node.mode);
            tape.putOctal(from + OWNER_AT, SHORT_DIGITS, node.owner);
            tape.putOctal(from + GROUP_AT, SHORT_DIGITS, 0);
            tape.putOctal(from + LENGTH_AT, LONG_DIGITS, node.contentsLength());
            tape.putOctal(from + TIME_AT, LONG_DIGITS, node.time);
            tape.bytes.put(from + TYPE_AT, Types.typeOf(node.kind));
            if (node.kind == SYMBOLIC_LINK) {
                tape.bytes.putAll(from + TARGET_AT, node.body);
            }
            if (node.kind == HARD_LINK) {
                tree.spellPath(node.file, path);
                tape.bytes.putAll(from + TARGET_AT, path);
            }
            tape.putMark(from + MARK_AT);
            tape.putOctal(from + MAJOR_AT, SHORT_DIGITS, 0);
            tape.putOctal(from + MINOR_AT, SHORT_DIGITS, 0);
            tape.putCheck(block);
            block++;
        }

        private void putPath(int from) {
            int cut = path.length > SECOND_PART ? cutOfPath() : NONE;
            for (int i = 0; i < cut; i++) {
                tape.bytes.put(from + FIRST_PART_AT + i, path.at(i));
            }
            for (int i = cut + 1; i < path.length; i++) {
                tape.bytes.put(from + SECOND_PART_AT + i - cut - 1, path.at(i));
            }
        }

        private void putContents(Node node) {
            if (node.kind == FILE) {
                tape.bytes.putAll(block * BLOCK, node.body);
                block += Tape.blocksOf(node.body.length);
            }
        }
    }

    private static final class Reader {
        private static final int NO_FAULT = 0;

        private final Tape tape;
        private final Row path = new Row();
        private final Row target = new Row();
        /** The block of the header that is read, or was read last. */
        int block = 0;
        private int from = 0;
        private long mode = 0;
        private long owner = 0;
        private long time = 0;
        private long length = 0;
        private int kind = NONE;
        private int dir = NONE;
        private int nameFrom = 0;
        private int nameTo = 0;
        private int file = NONE;

        Reader(Tape tape) {
            this.tape = tape;
        }

        /** How many nodes there are then, or the fault, below 0. */
        int takeTree(Tree into) {
            into.clear();
            block = 0;
            for (int entries = 0; entries <= MOST_BLOCKS; entries++) {
                if (tape.isBlockOfZeros(block) && tape.isBlockOfZeros(block + 1)) {
                    return into.count;
                }
                int fault = faultOfEntry(into);
                if (fault != NO_FAULT) {
                    return -fault;
                }
                takeEntry(into);
            }
            return -1;
        }

        private int faultOfEntry(Tree into) {
            from = block * BLOCK;
            if (block >= tape.wholeBlocks()) {
                return 1;
            }
            if (tape.isBlockOfZeros(block)) {
                return 2;
            }
            if (!tape.hasCheck(block)) {
                return 3;
            }
            if (!isMarked()) {
                return 4;
            }
            if (!takeNumbers()) {
                return 5;
            }
            if (!takeKind()) {
                return 6;
            }
            if (!takePath(into)) {
                return 7;
            }
            if (!takeTarget(into)) {
                return 8;
            }
            if (into.count >= MOST_NODES || length > MOST_CONTENTS) {
                return 9;
            }
            return faultOfContents((int) length);
        }

        private boolean isMarked() {
            return tape.hasMark(from + MARK_AT)
                    && tape.isZeros(from + MARK_END, from + MAJOR_AT)
                    && tape.isZeros(from + FIRST_PART_END, from + BLOCK);
        }

        private boolean takeNumbers() {
            mode = tape.octal(from + MODE_AT, SHORT_DIGITS);
            owner = tape.octal(from + OWNER_AT, SHORT_DIGITS);
            length = tape.octal(from + LENGTH_AT, LONG_DIGITS);
            time = tape.octal(from + TIME_AT, LONG_DIGITS);
            return mode != NONE && mode <= MOST_MODE && owner != NONE && length != NONE
                    && time != NONE && time <= MOST_TIME
                    && tape.octal(from + GROUP_AT, SHORT_DIGITS) != NONE
                    && tape.octal(from + MAJOR_AT, SHORT_DIGITS) != NONE
                    && tape.octal(from + MINOR_AT, SHORT_DIGITS) != NONE;
        }

        private boolean takeKind() {
            kind = Types.kindOf(tape.bytes.at(from + TYPE_AT));
            return kind != NONE && (kind == FILE || length == 0);
        }

        private boolean takePath(Tree into) {
            path.resize(0);
            boolean ended = addText(path, from + FIRST_PART_AT, FIRST_PART);
            if (path.length > 0) {
                path.addLetters(SLASH, 1);
            }
            ended = addText(path, from + SECOND_PART_AT, SECOND_PART) && ended;
            boolean slashed = path.at(path.length - 1) == SLASH;
            if (!ended || slashed != (kind == DIRECTORY)) {
                return false;
            }
            nameTo = slashed ? path.length - 1 : path.length;
            int slash = path.lastSlash(nameTo);
            nameFrom = slash + 1;
            dir = slash == NONE ? 0 : into.lookUp(path, slash);
            return path.isNameOfAnyLength(nameFrom, nameTo) && nameTo - nameFrom <= MOST_NAME
                    && into.isOfKind(dir, DIRECTORY)
                    && into.childNamed(dir, path, nameFrom, nameTo) == NONE;
        }

        private boolean takeTarget(Tree into) {
            target.resize(0);
            file = NONE;
            if (!addText(target, from + TARGET_AT, MOST_TARGET)) {
                return false;
            }
            if (kind == SYMBOLIC_LINK) {
                return target.isTarget();
            }
            if (kind == HARD_LINK) {
                file = into.lookUp(target, target.length);
                return into.isOfKind(file, FILE);
            }
            return target.length == 0;
        }

        /** Adds what is before the first zero; false if there is something else than zeros behind it. */
        private boolean addText(Row row, int start, int most) {
            int end = start;
            while (end < start + most && tape.bytes.at(end) > 0) {
                end++;
            }
            int old = row.length;
            row.resize(old + end - start);
            for (int i = start; i < end; i++) {
                row.put(old + i - start, tape.bytes.at(i));
            }
            return tape.isZeros(end, start + most);
        }

        private int faultOfContents(int contentsLength) {
            int blocks = Tape.blocksOf(contentsLength);
            if (block + blocks >= tape.wholeBlocks()) {
                return 10;
            }
            int start = from + BLOCK;
            return tape.isZeros(start + contentsLength, start + blocks * BLOCK) ? NO_FAULT : 11;
        }

        private void takeEntry(Tree into) {
            int number = into.add(dir, kind, file, path, nameFrom, nameTo);
            if (into.has(number)) {
                Node node = into.nodes[number];
                node.mode = (int) mode;
                node.owner = (int) owner;
                node.time = (int) time;
                if (kind == SYMBOLIC_LINK) {
                    node.body.copySlice(target, 0, target.length);
                }
                if (kind == FILE) {
                    node.body.copySlice(tape.bytes, from + BLOCK, from + BLOCK + (int) length);
                }
            }
            block += 1 + Tape.blocksOf((int) length);
        }
    }
}
