/** Counts the answers of a test that are not as due. */
final class Expect {
    private static int wrong = 0;

    private Expect() {
    }

    static void same(String call, long got, long want) {
        if (got != want) {
            wrong++;
            System.out.println(call + " answered " + got + ", due is " + want);
        }
    }

    static void refused(String call, Runnable code) {
        thrown(call, IllegalArgumentException.class, code);
    }

    static void full(String call, Runnable code) {
        thrown(call, IllegalStateException.class, code);
    }

    static void unsupported(String call, Runnable code) {
        thrown(call, UnsupportedOperationException.class, code);
    }

    private static void thrown(String call, Class<?> due, Runnable code) {
        Class<?> got = null;
        try {
            code.run();
        } catch (RuntimeException e) {
            got = e.getClass();
        }
        if (got != due) {
            wrong++;
            System.out.println(call + " threw " + got + ", due is " + due);
        }
    }

    static void done() {
        if (wrong != 0) {
            System.out.println(wrong + " answers are not as due");
            System.exit(1);
        }
    }
}
