/** Promise 5: feed(). */
public final class FeedTest {
    private static final Checks CHECKS = new Checks();

    public static void main(String[] args) {
        takesTheLowestBytes();
        refusals();
        refusalsChangeNothing();
        full();
        longestOfOneObject();
        CHECKS.close("FeedTest");
    }

    private static void takesTheLowestBytes() {
        long bytes = 0x8123456789ABCDEFL;
        for (int n = 1; n <= 8; n++) {
            CipherModes x = new CipherModes();
            x.begin(6, 4, 0);
            CHECKS.due("feed of " + n, x.feed(bytes, n), n);
            byte[] message = new byte[n];
            for (int i = 0; i < n; i++) {
                message[i] = (byte) (bytes >> (8 * (n - 1 - i)));
            }
            Calls.dueGiven(CHECKS, "feed of " + n, x, new Reference(new byte[64], new byte[16], 4).hide(6, message));
        }
    }

    private static void refusals() {
        CipherModes x = new CipherModes();
        CHECKS.due("not begun", x.feed(0, 8), CipherModes.NO);
        CHECKS.due("not begun, and n is wrong", x.feed(0, 0), CipherModes.BAD);
        x.begin(7, 4, 1);
        int[] wrong = {0, 9, -1, -8, 16, 64, Integer.MIN_VALUE, Integer.MAX_VALUE};
        for (int n : wrong) {
            CHECKS.due("feed of " + n, x.feed(-1, n), CipherModes.BAD);
        }
        CHECKS.due("feed", x.feed(-1, 3), 3);
        CHECKS.due("end", x.end(), 3);
        CHECKS.due("ended", x.feed(0, 1), CipherModes.NO);
        CHECKS.due("ended, and n is wrong", x.feed(0, 9), CipherModes.BAD);
        x.begin(0, 4, 0);
        x.feed(0, 1);
        x.end();
        CHECKS.due("ended with a fault", x.feed(0, 1), CipherModes.NO);
    }

    private static void refusalsChangeNothing() {
        byte[] message = Calls.hex("202122232425262728292a2b2c2d2e2f303132333435363738393a3b3c3d3e3f4041");
        for (int mode = 2; mode <= 10; mode++) {
            CipherModes x = new CipherModes();
            x.begin(mode, 4, 0);
            for (int i = 0; i < message.length; i += 2) {
                CHECKS.due("refused", x.feed(-1, 0), CipherModes.BAD);
                CHECKS.due("refused", x.feed(-1, 9), CipherModes.BAD);
                CHECKS.due("mode " + mode, Calls.feedPiece(x, message, i, 2), Reference.dueCount(mode, 0, i + 2));
            }
            x.end();
            int count = x.given(0);
            CHECKS.due("refused", x.feed(-1, 8), CipherModes.NO);
            CHECKS.due("as before", x.given(0), count);
            Calls.dueGiven(CHECKS, "mode " + mode, x, new Reference(new byte[64], new byte[16], 4).hide(mode, message));
        }
    }

    /** Nothing promises these answers (they come behind the 512th call), but this is what FULL says. */
    private static void full() {
        for (int mode = 0; mode <= 10; mode++) {
            byte[] message = new byte[4096];
            new java.util.Random(mode).nextBytes(message);
            CipherModes x = new CipherModes();
            x.begin(mode, 4, 0);
            Calls.feedAll(x, java.util.Arrays.copyOf(message, 4090), 6);
            CHECKS.due("7 over", x.feed(0, 7), CipherModes.FULL);
            CHECKS.due("8 over", x.feed(0, 8), CipherModes.FULL);
            CHECKS.due("9 is BAD", x.feed(0, 9), CipherModes.BAD);
            CHECKS.due("just full", Calls.feedPiece(x, message, 4090, 6), Reference.dueCount(mode, 0, 4096));
            CHECKS.due("1 over", x.feed(0, 1), CipherModes.FULL);
            byte[] want = new Reference(new byte[64], new byte[16], 4).hide(mode, message);
            CHECKS.due("end", x.end(), want.length);
            CHECKS.due("full, but ended", x.feed(0, 1), CipherModes.NO);
            Calls.dueGiven(CHECKS, "full, mode " + mode, x, want);
            x.begin(mode, 4, 0);
            CHECKS.due("room again", x.feed(0, 8), Reference.dueCount(mode, 0, 8));
        }
    }

    private static void longestOfOneObject() {
        for (int mode = 0; mode <= 10; mode++) {
            for (int shows = 0; shows <= 1; shows++) {
                CipherModes x = new CipherModes();
                x.begin(mode, 8, shows);
                for (int i = 1; i <= 511; i++) {
                    int want = Reference.dueCount(mode, shows, 8 * i);
                    CHECKS.due("mode " + mode + ", " + 8 * i + " bytes", x.feed(i, 8), want);
                }
            }
        }
    }
}
