import java.util.ArrayList;
import java.util.List;
import java.util.function.Consumer;
import java.util.function.ToIntFunction;

/**
 * A TarYard that is never asked more than the document promises: its 512 calls are counted. What is only looked at is
 * asked of a twin that has had the same calls, and of the next twin when that one has had its 512, so that a test can
 * look at all there is.
 */
final class Yard {
    static final int DIRECTORY = 0;
    static final int FILE = 1;
    static final int SYMBOLIC_LINK = 2;
    static final int HARD_LINK = 3;
    static final int NONE = TarYard.NONE;
    static final int MOST_CALLS = 512;

    private final TarYard yard = new TarYard();
    private final List<Consumer<TarYard>> calls = new ArrayList<>();
    private TarYard twin;
    private int callsOfTwin;

    /** Up to 8 characters as the face takes them, the first in the lowest byte. */
    static long word(String text) {
        long w = 0;
        for (int i = text.length() - 1; i >= 0; i--) {
            w = w << 8 | text.charAt(i);
        }
        return w;
    }

    static String repeat(char letter, int times) {
        return String.valueOf(letter).repeat(times);
    }

    /** A call of the object itself. */
    int call(ToIntFunction<TarYard> call) {
        keep(call);
        return call.applyAsInt(yard);
    }

    private void keep(ToIntFunction<TarYard> call) {
        if (calls.size() >= MOST_CALLS) {
            throw new AssertionError("a test calls one object more than 512 times");
        }
        calls.add(other -> {
            try {
                call.applyAsInt(other);
            } catch (RuntimeException e) {
                // The object itself has thrown it too, and its test has seen it.
            }
        });
        twin = null;
    }

    int callsLeft() {
        return MOST_CALLS - calls.size();
    }

    /** A call of a twin; one that throws counts as a call of the object, so that it is seen if it changes anything. */
    int look(ToIntFunction<TarYard> question) {
        if (twin == null || callsOfTwin >= MOST_CALLS) {
            twin = new TarYard();
            calls.forEach(call -> call.accept(twin));
            callsOfTwin = calls.size();
        }
        callsOfTwin++;
        if (callsOfTwin > MOST_CALLS) {
            throw new AssertionError("a test has no call left to look with");
        }
        try {
            return question.applyAsInt(twin);
        } catch (RuntimeException e) {
            keep(question);
            throw e;
        }
    }

    private static int told(Runnable call) {
        call.run();
        return 0;
    }

    int make(int in, int kind, long w, int n, int of) {
        return call(t -> t.make(in, kind, w, n, of));
    }

    int make(int in, int kind, String name) {
        return make(in, kind, name, 0);
    }

    int make(int in, int kind, String name, int of) {
        String begin = name.substring(0, Math.min(8, name.length()));
        int made = make(in, kind, word(begin), begin.length(), of);
        rename(made, name.substring(begin.length()));
        return made;
    }

    int rename(int node, long w, int n) {
        return call(t -> t.rename(node, w, n));
    }

    void rename(int node, String more) {
        for (int i = 0; i < more.length(); i += 8) {
            String some = more.substring(i, Math.min(i + 8, more.length()));
            rename(node, word(some), some.length());
        }
    }

    int fill(int node, long w, int n) {
        return call(t -> t.fill(node, w, n));
    }

    void fill(int node, String more) {
        for (int i = 0; i < more.length(); i += 8) {
            String some = more.substring(i, Math.min(i + 8, more.length()));
            fill(node, word(some), some.length());
        }
    }

    void contents(int node, int length, int seed) {
        call(t -> told(() -> t.contents(node, length, seed)));
    }

    void set(int node, int mode, int owner, int time) {
        call(t -> told(() -> t.set(node, mode, owner, time)));
    }

    int remove(int node) {
        return call(t -> t.remove(node));
    }

    int write() {
        return call(TarYard::write);
    }

    int read() {
        return call(TarYard::read);
    }

    int alter(int i, int b) {
        return call(t -> t.alter(i, b));
    }

    void alter(int from, String text) {
        String was = bytes(from, text.length());
        for (int i = 0; i < text.length(); i++) {
            if (was.charAt(i) != text.charAt(i)) {
                alter(from + i, text.charAt(i));
            }
        }
    }

    int check(int b) {
        return call(t -> t.check(b));
    }

    void size(int n) {
        call(t -> told(() -> t.size(n)));
    }

    int place() {
        return look(TarYard::place);
    }

    int hand(int i) {
        return look(t -> t.hand(i));
    }

    int node(int node, int what) {
        return look(t -> t.node(node, what));
    }

    int part(int node, int what, int i) {
        return look(t -> t.part(node, what, i));
    }

    int total(int what) {
        return look(t -> t.total(what));
    }

    String name(int node) {
        return text(node, 0);
    }

    /** Contents or target. */
    String body(int node) {
        return text(node, 1);
    }

    private String text(int node, int what) {
        StringBuilder text = new StringBuilder();
        for (int next = part(node, what, 0); next != NONE; next = part(node, what, text.length())) {
            text.append((char) next);
        }
        return text.toString();
    }

    /** The bytes at hand from one place on. */
    String bytes(int from, int length) {
        StringBuilder text = new StringBuilder();
        for (int i = from; i < from + length; i++) {
            text.append((char) hand(i));
        }
        return text.toString();
    }

    /** The bytes at hand up to the first zero, or so many. */
    String textAt(int from, int most) {
        StringBuilder text = new StringBuilder();
        for (int i = from; i < from + most && hand(i) > 0; i++) {
            text.append((char) hand(i));
        }
        return text.toString();
    }

    /** All that the face tells of nodes. */
    String tree() {
        StringBuilder tree = new StringBuilder();
        int nodes = total(0);
        for (int node = 0; node < nodes; node++) {
            tree.append("\nnode");
            for (int what = 0; what < 8; what++) {
                tree.append(' ').append(node(node, what));
            }
            tree.append(' ').append(name(node)).append(' ').append(body(node));
        }
        return tree.append("\nlongest ").append(total(2)).toString();
    }

    /** All that the face tells, so that two states can be compared. */
    String state() {
        return "place " + place() + tree() + "\nhand " + bytes(0, total(1));
    }
}
