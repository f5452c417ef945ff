import java.util.Random;

/** Promises 1 to 8 in runs of 512 calls of any kind and order, right and wrong ones, against the model. */
public final class AnyCallsTest {
    private static final Checks CHECKS = new Checks();
    private static final int[] EDGES = {Integer.MIN_VALUE, -100, -2, -1, 0, 1, 2, 9, 16, 64, 256, 4096, Integer.MAX_VALUE};

    public static void main(String[] args) {
        for (int run = 1; run <= 400; run++) {
            CipherModes x = new CipherModes();
            Model model = new Model();
            Random random = new Random(run);
            // Some runs begin often, and some seldom: so messages of all lengths come to their end.
            int pace = 4 << random.nextInt(6);
            for (int call = 1; call <= 512; call++) {
                oneCall("run " + run + ", call " + call, x, model, random, pace);
            }
        }
        CHECKS.close("AnyCallsTest");
    }

    private static void oneCall(String what, CipherModes x, Model model, Random random, int pace) {
        if (random.nextInt(pace) == 0) {
            message(what, x, model, random);
            return;
        }
        switch (random.nextInt(12)) {
            case 0: {
                int i = near(random, 8);
                long v = random.nextLong();
                CHECKS.due(what + ": key(" + i + ")", x.key(i, v), model.key(i, v));
                return;
            }
            case 1: {
                int i = near(random, 2);
                long v = random.nextLong();
                CHECKS.due(what + ": initial(" + i + ")", x.initial(i, v), model.initial(i, v));
                return;
            }
            case 2: {
                int words = near(random, 10);
                int shows = near(random, 2);
                int i = near(random, 2);
                CHECKS.due(what + ": block", x.block(words, shows, i), model.block(words, shows, i));
                return;
            }
            case 3:
            case 4:
            case 5: {
                int i = near(random, 100);
                CHECKS.due(what + ": given(" + i + ")", x.given(i), model.given(i));
                return;
            }
            default: {
                int n = random.nextInt(20) == 0 ? near(random, 9) : random.nextInt(8) + 1;
                long bytes = random.nextLong();
                CHECKS.due(what + ": feed of " + n, x.feed(bytes, n), model.feed(bytes, n));
            }
        }
    }

    private static void message(String what, CipherModes x, Model model, Random random) {
        if (random.nextInt(3) == 0) {
            CHECKS.due(what + ": end", x.end(), model.end());
            return;
        }
        int mode = near(random, 11);
        int words = random.nextInt(10) == 0 ? near(random, 10) : 4 + 2 * random.nextInt(3);
        int shows = random.nextInt(10) == 0 ? near(random, 2) : random.nextInt(2);
        String call = ": begin(" + mode + ", " + words + ", " + shows + ")";
        CHECKS.due(what + call, x.begin(mode, words, shows), model.begin(mode, words, shows));
    }

    /** Mostly 0 .. n - 1, but now and then just outside or far off. */
    private static int near(Random random, int n) {
        int kind = random.nextInt(12);
        if (kind == 0) {
            return EDGES[random.nextInt(EDGES.length)];
        }
        return kind == 1 ? n : random.nextInt(n);
    }
}
