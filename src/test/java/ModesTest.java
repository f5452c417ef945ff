import java.util.Arrays;
import java.util.Random;

/** Promises 4 to 7 together: each mode, key and length, hidden and shown, cut in many ways. */
public final class ModesTest {
    private static final Checks CHECKS = new Checks();
    private static final int[][] CUTS = {{1}, {2}, {3}, {5}, {7}, {8}, {1, 8}, {8, 8, 1}, {3, 7, 2, 8, 1, 6, 5, 4}};

    public static void main(String[] args) {
        Random random = new Random(11);
        for (int mode = 0; mode <= 10; mode++) {
            for (int words = 4; words <= 8; words += 2) {
                for (int t = 0; t <= 82 && !(mode == 10 && words == 6); t++) {
                    bothWays(random, mode, words, t);
                }
            }
        }
        shownFirst(random);
        countersRunOver();
        longMessages(random);
        CHECKS.close("ModesTest");
    }

    private static void bothWays(Random random, int mode, int words, int t) {
        if (!Reference.canBeHidden(mode, t)) {
            return;
        }
        byte[] row = bytes(random, 64);
        byte[] initial = bytes(random, 16);
        byte[] message = bytes(random, t);
        byte[] hidden = new Reference(row, initial, words).hide(mode, message);
        int[] cuts = CUTS[random.nextInt(CUTS.length)];
        for (int[] more : new int[][] {cuts, {8}, {1}}) {
            dueMessage(Calls.made(row, initial), new int[] {mode, words, 0}, message, hidden, more);
            dueMessage(Calls.made(row, initial), new int[] {mode, words, 1}, hidden, message, more);
        }
    }

    /** Feeds a message, with the count that is due behind each piece, and what is due at its end. */
    private static void dueMessage(CipherModes x, int[] how, byte[] message, byte[] want, int[] cuts) {
        String what = "begin" + Arrays.toString(how) + " of " + message.length + " cut " + Arrays.toString(cuts);
        CHECKS.due(what, x.begin(how[0], how[1], how[2]), 0);
        int t = 0;
        for (int i = 0; t < message.length; i++) {
            int n = Math.min(cuts[i % cuts.length], message.length - t);
            int count = Calls.feedPiece(x, message, t, n);
            t += n;
            CHECKS.due(what + ", at " + t, count, Reference.dueCount(how[0], how[2], t));
        }
        CHECKS.due(what + ", end", x.end(), want.length);
        Calls.dueGiven(CHECKS, what, x, want);
    }

    /** Any bytes are what some message is hidden as (but for padding): shown and hidden they are again the same. */
    private static void shownFirst(Random random) {
        for (int mode = 0; mode <= 10; mode++) {
            for (int t = 0; t <= 50; t++) {
                if (mode == 2 || !Reference.canBeShown(mode, t)) {
                    continue;
                }
                byte[] row = bytes(random, 64);
                byte[] initial = bytes(random, 16);
                byte[] hidden = bytes(random, t);
                CipherModes x = Calls.made(row, initial);
                x.begin(mode, 4, 1);
                Calls.feedAll(x, hidden, 8);
                CHECKS.due("shown first, mode " + mode, x.end(), t);
                byte[] shown = Calls.allGiven(x);
                CHECKS.due("shown first, mode " + mode, shown.length, t);
                CHECKS.due("shown first, mode " + mode + " of " + t,
                        Arrays.equals(new Reference(row, initial, 4).hide(mode, shown), hidden), true);
            }
        }
    }

    /** The number of mode 6 runs over in each of its bytes. */
    private static void countersRunOver() {
        byte[] row = new byte[64];
        byte[] message = new byte[80];
        for (int ones = 0; ones <= 16; ones++) {
            byte[] initial = new byte[16];
            initial[0] = 5;
            Arrays.fill(initial, 16 - ones, 16, (byte) -1);
            if (ones > 0) {
                initial[15] = (byte) -3;
            }
            byte[] hidden = new Reference(row, initial, 4).hide(6, message);
            dueMessage(Calls.made(row, initial), new int[] {6, 4, 0}, message, hidden, new int[] {8});
        }
    }

    private static void longMessages(Random random) {
        for (int mode = 0; mode <= 10; mode++) {
            byte[] row = bytes(random, 64);
            byte[] initial = bytes(random, 16);
            byte[] message = bytes(random, mode < 2 ? 3200 : 3195);
            byte[] hidden = new Reference(row, initial, 8).hide(mode, message);
            sampleLong(Calls.made(row, initial), mode, 0, message, hidden);
            sampleLong(Calls.made(row, initial), mode, 1, hidden, message);
        }
    }

    /** Some 410 calls to feed it, and a sample of its bytes with what is left of the 512. */
    private static void sampleLong(CipherModes x, int mode, int shows, byte[] message, byte[] want) {
        String what = "long, mode " + mode + ", shows " + shows;
        x.begin(mode, 8, shows);
        CHECKS.due(what, Calls.feedAll(x, message, 8), Reference.dueCount(mode, shows, message.length));
        CHECKS.due(what, x.end(), want.length);
        for (int i = 0; i < want.length; i += 61) {
            CHECKS.due(what + " given(" + i + ")", x.given(i), want[i] & 255);
        }
        for (int i = want.length - 34; i < want.length; i++) {
            CHECKS.due(what + " given(" + i + ")", x.given(i), want[i] & 255);
        }
    }

    private static byte[] bytes(Random random, int n) {
        byte[] row = new byte[n];
        random.nextBytes(row);
        return row;
    }
}
