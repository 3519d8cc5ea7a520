/** Short ways to say in tests what the face says with numbers. */
final class Yards {
    static final int DIRECTORY = 0;
    static final int FILE = 1;
    static final int SYMBOLIC_LINK = 2;
    static final int HARD_LINK = 3;

    private Yards() {
    }

    /** Up to 8 characters as the face takes them, the first in the lowest byte. */
    static long word(String text) {
        long w = 0;
        for (int i = text.length() - 1; i >= 0; i--) {
            w = w << 8 | text.charAt(i);
        }
        return w;
    }

    static int make(TarYard yard, int in, int kind, String name) {
        return make(yard, in, kind, name, 0);
    }

    static int make(TarYard yard, int in, int kind, String name, int of) {
        int made = yard.make(in, kind, word(name.substring(0, Math.min(8, name.length()))), Math.min(8, name.length()), of);
        for (int i = 8; i < name.length(); i += 8) {
            String more = name.substring(i, Math.min(i + 8, name.length()));
            yard.rename(made, word(more), more.length());
        }
        return made;
    }

    static void target(TarYard yard, int node, String text) {
        for (int i = 0; i < text.length(); i += 8) {
            String more = text.substring(i, Math.min(i + 8, text.length()));
            yard.fill(node, word(more), more.length());
        }
    }

    static String name(TarYard yard, int node) {
        return text(yard, node, 0);
    }

    static String text(TarYard yard, int node, int what) {
        StringBuilder text = new StringBuilder();
        for (int i = 0; yard.part(node, what, i) != TarYard.NONE; i++) {
            text.append((char) yard.part(node, what, i));
        }
        return text.toString();
    }

    static void expectText(String what, String got, String want) {
        if (!got.equals(want)) {
            System.out.println(what + ": got \"" + got + "\", due is \"" + want + "\"");
        }
        Expect.same(what, got.equals(want) ? 1 : 0, 1);
    }

    /** The bytes at hand up to the first zero, or up to most. */
    static String atHand(TarYard yard, int from, int most) {
        StringBuilder text = new StringBuilder();
        for (int i = from; i < from + most && yard.hand(i) > 0; i++) {
            text.append((char) yard.hand(i));
        }
        return text.toString();
    }

    static void alter(TarYard yard, int from, String text) {
        for (int i = 0; i < text.length(); i++) {
            yard.alter(from + i, text.charAt(i));
        }
    }

    /** All that the face tells of an object, so that two states can be compared. */
    static String state(TarYard yard) {
        StringBuilder state = new StringBuilder();
        state.append("place ").append(yard.place());
        for (int what = 0; what < 3; what++) {
            state.append(" total ").append(yard.total(what));
        }
        for (int node = 0; node < yard.total(0); node++) {
            state.append("\nnode");
            for (int what = 0; what < 8; what++) {
                state.append(' ').append(yard.node(node, what));
            }
            state.append(' ').append(text(yard, node, 0)).append(' ').append(text(yard, node, 1));
        }
        state.append("\nhand ");
        for (int i = 0; i < yard.total(1); i++) {
            state.append((char) yard.hand(i));
        }
        return state.toString();
    }

    static String repeat(char letter, int times) {
        return String.valueOf(letter).repeat(times);
    }
}
