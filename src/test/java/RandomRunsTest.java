import java.util.Arrays;
import java.util.Random;
import java.util.function.IntSupplier;
import java.util.function.ToIntFunction;

/** Runs of calls by a fixed seed, each call answered by the class and by the model. */
public final class RandomRunsTest {
    private static final int RUNS = 500;
    /** No step makes more calls than this. */
    private static final int MOST_CALLS_OF_A_STEP = 13;
    /** What a run leaves for looking at its end. */
    private static final int LOOKS = 150;
    private static final int[] NUMBERS = {
        Integer.MIN_VALUE, -2, -1, 0, 1, 2, 3, 7, 8, 9, 29, 30, 31, 99, 100, 101, 255, 256, 511, 512, 2000, 2001, 4095, 4096,
        10239, 10240, 10241, 2097151, 2097152, Integer.MAX_VALUE};
    private static final int[] FIELDS = {0, 1, 98, 99, 100, 106, 107, 108, 115, 116, 123, 124, 133, 134, 135, 136, 137, 147, 148,
        153, 154, 155, 156, 157, 158, 256, 257, 262, 264, 265, 328, 329, 336, 337, 344, 345, 346, 499, 500, 511};
    private static final int[] BYTES = {0, 1, 32, 33, 45, 46, 47, 48, 49, 50, 51, 53, 55, 56, 97, 98, 126, 127, 255};
    private static final String LETTERS = "ab-./A~!";

    private final Random random;
    private final Yard yard = new Yard();
    private final Model model = new Model();
    private boolean same = true;

    private RandomRunsTest(long seed) {
        random = new Random(seed);
    }

    public static void main(String[] args) {
        for (int run = 0; run < RUNS; run++) {
            int seed = run;
            Expect.holds("run " + seed, () -> new RandomRunsTest(seed).play());
        }
        Expect.done();
    }

    private void play() {
        int left = LOOKS + random.nextInt(Yard.MOST_CALLS - LOOKS);
        while (yard.callsLeft() >= left + MOST_CALLS_OF_A_STEP && same) {
            step("call " + (Yard.MOST_CALLS - yard.callsLeft()));
        }
        compareStates();
    }

    private void step(String where) {
        int dice = random.nextInt(100);
        if (dice < 50) {
            growStep(where);
        } else if (dice < 95) {
            archiveStep(where);
        } else {
            oddStep(where);
        }
    }

    private void growStep(String where) {
        int node = random.nextInt(model.total(0) + 1);
        long w = word();
        int n = 1 + random.nextInt(8);
        int few = 1 + random.nextInt(2);
        switch (random.nextInt(8)) {
            case 0, 1 -> {
                int in = random.nextInt(model.total(0));
                int kind = random.nextInt(4);
                both(where + " make", t -> t.make(in, kind, w, few, node), () -> model.make(in, kind, w, few, node));
            }
            case 2 -> {
                for (int i = 0; i < MOST_CALLS_OF_A_STEP; i++) {
                    both(where + " rename", t -> t.rename(node, w, n), () -> model.rename(node, w, n));
                }
            }
            case 3 -> both(where + " rename", t -> t.rename(node, w, few), () -> model.rename(node, w, few));
            case 4 -> both(where + " fill", t -> t.fill(node, w, n), () -> model.fill(node, w, n));
            case 5 -> {
                int length = random.nextBoolean() ? random.nextInt(30) : random.nextInt(2001);
                int seed = random.nextInt(256);
                both(where + " contents", t -> told(() -> t.contents(node, length, seed)),
                        () -> told(() -> model.contents(node, length, seed)));
            }
            case 6 -> {
                int mode = random.nextInt(4096);
                int owner = random.nextInt(2097152);
                int time = random.nextInt(Integer.MAX_VALUE);
                both(where + " set", t -> told(() -> t.set(node, mode, owner, time)),
                        () -> told(() -> model.set(node, mode, owner, time)));
            }
            default -> {
                if (random.nextInt(4) == 0) {
                    both(where + " remove", t -> t.remove(node), () -> model.remove(node));
                }
            }
        }
    }

    private void archiveStep(String where) {
        int block = random.nextInt(Math.max(1, model.total(1) / 512));
        int i = block * 512 + (random.nextInt(3) > 0 ? FIELDS[random.nextInt(FIELDS.length)] : random.nextInt(512));
        int b = BYTES[random.nextInt(BYTES.length)];
        switch (random.nextInt(6)) {
            case 0, 1 -> both(where + " write", TarYard::write, model::write);
            case 2 -> readBoth(where);
            case 3 -> {
                int was = model.hand(i);
                both(where + " alter", t -> t.alter(i, b), () -> model.alter(i, b));
                both(where + " check", t -> t.check(block), () -> model.check(block));
                readBoth(where);
                if (random.nextInt(3) > 0) {
                    both(where + " alter", t -> t.alter(i, was), () -> model.alter(i, was));
                    both(where + " check", t -> t.check(block), () -> model.check(block));
                }
            }
            case 4 -> {
                both(where + " alter", t -> t.alter(i, b), () -> model.alter(i, b));
                readBoth(where);
            }
            default -> {
                int size = random.nextInt(4) > 0 ? model.total(1) + random.nextInt(1100) - 550 : random.nextInt(10300);
                both(where + " size", t -> told(() -> t.size(size)), () -> told(() -> model.size(size)));
                readBoth(where);
            }
        }
    }

    private void readBoth(String where) {
        both(where + " read", TarYard::read, model::read);
        both(where + " place", TarYard::place, model::place);
        both(where + " total(2)", t -> t.total(2), () -> model.total(2));
    }

    private void oddStep(String where) {
        int a = NUMBERS[random.nextInt(NUMBERS.length)];
        int b = random.nextBoolean() ? random.nextInt(9) - 1 : NUMBERS[random.nextInt(NUMBERS.length)];
        int c = NUMBERS[random.nextInt(NUMBERS.length)];
        int d = NUMBERS[random.nextInt(NUMBERS.length)];
        long w = random.nextBoolean() ? random.nextLong() : word();
        switch (random.nextInt(13)) {
            case 0 -> both(where + " make", t -> t.make(a, b, w, c, d), () -> model.make(a, b, w, c, d));
            case 1 -> both(where + " rename", t -> t.rename(a, w, b), () -> model.rename(a, w, b));
            case 2 -> both(where + " fill", t -> t.fill(a, w, b), () -> model.fill(a, w, b));
            case 3 -> both(where + " contents", t -> told(() -> t.contents(a, c, d)), () -> told(() -> model.contents(a, c, d)));
            case 4 -> both(where + " set", t -> told(() -> t.set(a, b, c, d)), () -> told(() -> model.set(a, b, c, d)));
            case 5 -> both(where + " remove", t -> t.remove(a), () -> model.remove(a));
            case 6 -> both(where + " alter", t -> t.alter(a, c), () -> model.alter(a, c));
            case 7 -> both(where + " check", t -> t.check(a), () -> model.check(a));
            case 8 -> both(where + " size", t -> told(() -> t.size(a)), () -> told(() -> model.size(a)));
            case 9 -> both(where + " hand", t -> t.hand(a), () -> model.hand(a));
            case 10 -> both(where + " node", t -> t.node(a, b), () -> model.node(a, b));
            case 11 -> both(where + " part", t -> t.part(a, b, c), () -> model.part(a, b, c));
            default -> both(where + " total", t -> t.total(b), () -> model.total(b));
        }
    }

    private long word() {
        StringBuilder text = new StringBuilder();
        for (int i = 0; i < 8; i++) {
            text.append(LETTERS.charAt(random.nextInt(random.nextInt(8) == 0 ? LETTERS.length() : 3)));
        }
        return Yard.word(text.toString());
    }

    private static int told(Runnable call) {
        call.run();
        return 0;
    }

    private void both(String call, ToIntFunction<TarYard> ofYard, IntSupplier ofModel) {
        long got = answer(() -> yard.call(ofYard));
        long due = answer(ofModel);
        same = same && got == due;
        Expect.same(call, got, due);
    }

    /** Answers and exceptions as numbers that can't be taken for one another. */
    private static long answer(IntSupplier call) {
        try {
            return call.getAsInt();
        } catch (RuntimeException e) {
            Class<?> thrown = e.getClass();
            return thrown == IllegalArgumentException.class ? 1L << 40
                    : thrown == IllegalStateException.class ? 2L << 40
                    : thrown == UnsupportedOperationException.class ? 3L << 40 : 4L << 40;
        }
    }

    private void compareStates() {
        for (int what = 0; what < 3; what++) {
            compare("total", yard.total(what), model.total(what), what);
        }
        for (int node = 0; node < model.total(0) && same; node++) {
            for (int what = 0; what < 8; what++) {
                compare("node", yard.node(node, what), model.node(node, what), node, what);
            }
            comparePart(node, 0, model.node(node, 2));
            comparePart(node, 1, model.node(node, 6));
        }
        for (int i = -1; i <= model.total(1) && same; i++) {
            compare("hand", yard.hand(i), model.hand(i), i);
        }
    }

    private void comparePart(int node, int what, int length) {
        for (int i = -1; i <= length; i++) {
            compare("part", yard.part(node, what, i), model.part(node, what, i), node, what, i);
        }
    }

    /** The name of a call is put together only where its answers differ: there are very many calls here. */
    private void compare(String call, int got, int due, int... arguments) {
        if (got != due) {
            same = false;
            Expect.same(call + Arrays.toString(arguments), got, due);
        }
    }
}
