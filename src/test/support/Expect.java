import java.util.function.Consumer;

/** Runs the cases of a test, and counts the answers that are not as due. */
final class Expect {
    private static int cases = 0;
    private static int wrong = 0;
    private static String current = "";

    private Expect() {
    }

    /** One case: words of the document, and the test that would fail if they did not hold. */
    static void holds(String words, Runnable test) {
        cases++;
        current = words;
        try {
            test.run();
        } catch (RuntimeException e) {
            tell("threw " + e + " at " + e.getStackTrace()[0]);
        }
    }

    /** As above, with the side of the words that this case looks at. */
    static void holds(String words, String side, Runnable test) {
        holds(words + " (" + side + ")", test);
    }

    static void same(String call, long got, long want) {
        if (got != want) {
            tell(call + " answered " + got + ", due is " + want);
        }
    }

    static void text(String what, String got, String want) {
        if (!got.equals(want)) {
            tell(what + ": got \"" + got + "\", due is \"" + want + "\"");
        }
    }

    static void refused(Yard yard, String call, Consumer<Yard> code) {
        thrown(yard, call, IllegalArgumentException.class, code);
    }

    static void full(Yard yard, String call, Consumer<Yard> code) {
        thrown(yard, call, IllegalStateException.class, code);
    }

    static void unsupported(Yard yard, String call, Consumer<Yard> code) {
        thrown(yard, call, UnsupportedOperationException.class, code);
    }

    /** The call throws just that, and nothing is another than before. */
    private static void thrown(Yard yard, String call, Class<?> due, Consumer<Yard> code) {
        String before = yard.state();
        Class<?> got = null;
        try {
            code.accept(yard);
        } catch (RuntimeException e) {
            got = e.getClass();
        }
        if (got != due) {
            tell(call + " threw " + got + ", due is " + due);
        }
        text("all that there is after " + call, yard.state(), before);
    }

    private static void tell(String what) {
        wrong++;
        System.out.println("[" + current + "] " + what);
    }

    static void done() {
        System.out.println(cases + " cases, " + wrong + " answers are not as due");
        if (wrong != 0 || cases == 0) {
            System.exit(1);
        }
    }
}
