/** Promise 4: begin(). */
public final class BeginTest {
    private static final Checks CHECKS = new Checks();
    private static final int[] EDGES = {-1, 0, 1, 2, 3, 4, 5, 6, 7, 8, 9, 10, 11, 12, Integer.MIN_VALUE, Integer.MAX_VALUE};

    public static void main(String[] args) {
        allArguments();
        badOnesLetTheMessageGoOn();
        beginsAnew();
        CHECKS.close("BeginTest");
    }

    private static void allArguments() {
        for (int mode : EDGES) {
            CipherModes x = new CipherModes();
            for (int words : EDGES) {
                for (int shows : EDGES) {
                    boolean fine = mode >= 0 && mode <= 10 && (words == 4 || words == 8 || (words == 6 && mode != 10))
                            && (shows == 0 || shows == 1);
                    int want = fine ? 0 : CipherModes.BAD;
                    CHECKS.due("begin(" + mode + ", " + words + ", " + shows + ")", x.begin(mode, words, shows), want);
                }
            }
        }
        CipherModes fresh = new CipherModes();
        CHECKS.due("a bad begin", fresh.begin(10, 6, 0), CipherModes.BAD);
        CHECKS.due("feed after a bad begin", fresh.feed(1, 1), CipherModes.NO);
        CHECKS.due("end after a bad begin", fresh.end(), CipherModes.NO);
    }

    private static void badOnesLetTheMessageGoOn() {
        byte[] message = Calls.hex("000102030405060708090a0b0c0d0e0f101112131415161718191a1b1c1d1e1f20212223");
        for (int mode = 2; mode <= 10; mode++) {
            CipherModes x = new CipherModes();
            x.begin(mode, 8, 0);
            for (int i = 0; i < message.length; i += 4) {
                Calls.feedPiece(x, message, i, 4);
                CHECKS.due("bad mode", x.begin(11, 4, 1), CipherModes.BAD);
                CHECKS.due("bad words", x.begin(1, 5, 1), CipherModes.BAD);
                CHECKS.due("bad shows", x.begin(1, 4, 2), CipherModes.BAD);
                CHECKS.due("words for XTS", x.begin(10, 6, 0), CipherModes.BAD);
            }
            byte[] want = new Reference(new byte[64], new byte[16], 8).hide(mode, message);
            CHECKS.due("end, mode " + mode, x.end(), want.length);
            CHECKS.due("bad begin behind the end", x.begin(-1, 4, 0), CipherModes.BAD);
            Calls.dueGiven(CHECKS, "mode " + mode, x, want);
            CHECKS.due("still ended", x.end(), CipherModes.NO);
        }
    }

    private static void beginsAnew() {
        byte[] message = Calls.hex("ffeeddccbbaa99887766554433221100ff");
        for (int mode = 0; mode <= 10; mode++) {
            CipherModes x = new CipherModes();
            byte[] want = mode < 2
                    ? new Reference(new byte[64], new byte[16], 4).hide(mode, new byte[16])
                    : new Reference(new byte[64], new byte[16], 4).hide(mode, message);
            // What came before, of each mode and however far it got, leaves nothing behind.
            for (int before = 0; before <= 10; before++) {
                x.begin(before, 8, before % 2);
                Calls.feedAll(x, message, 8);
                CHECKS.due("begin over a message", x.begin(mode, 4, 0), 0);
                CHECKS.due("nothing is given out yet", x.given(0), CipherModes.BAD);
                int t = Calls.feedAll(x, mode < 2 ? new byte[16] : message, 8);
                CHECKS.due("counted anew", t, Reference.dueCount(mode, 0, mode < 2 ? 16 : message.length));
                CHECKS.due("end", x.end(), want.length);
                CHECKS.due("first byte", x.given(0), want[0] & 255);
                CHECKS.due("last byte", x.given(want.length - 1), want[want.length - 1] & 255);
                CHECKS.due("no more", x.given(want.length), CipherModes.BAD);
            }
        }
    }
}
