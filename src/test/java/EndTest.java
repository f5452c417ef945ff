import java.util.Arrays;

/** Promise 6: end(), and its faults. */
public final class EndTest {
    private static final Checks CHECKS = new Checks();

    public static void main(String[] args) {
        lengths();
        paddings();
        shortestPadded();
        CHECKS.close("EndTest");
    }

    /** Every length, both ways: the count or fault 1, and that the message is ended by it. */
    private static void lengths() {
        for (int mode = 0; mode <= 10; mode++) {
            for (int t = 0; t <= 66; t++) {
                hiddenOf(mode, t);
                if (mode != 2) {
                    shownOf(mode, t);
                } else if (!Reference.canBeShown(2, t)) {
                    faultAt(2, 1, new byte[t], 1);
                }
            }
        }
    }

    private static void hiddenOf(int mode, int t) {
        if (!Reference.canBeHidden(mode, t)) {
            faultAt(mode, 0, new byte[t], 1);
            return;
        }
        CipherModes x = new CipherModes();
        x.begin(mode, 4, 0);
        Calls.feedAll(x, new byte[t], 5);
        CHECKS.due("hiding " + t + " by " + mode, x.end(), mode == 2 ? t + 16 - t % 16 : t);
        CHECKS.due("ended", x.end(), CipherModes.NO);
    }

    private static void shownOf(int mode, int t) {
        if (!Reference.canBeShown(mode, t)) {
            faultAt(mode, 1, new byte[t], 1);
            return;
        }
        CipherModes x = new CipherModes();
        x.begin(mode, 4, 1);
        Calls.feedAll(x, new byte[t], 5);
        CHECKS.due("showing " + t + " by " + mode, x.end(), t);
        CHECKS.due("ended", x.end(), CipherModes.NO);
    }

    private static void faultAt(int mode, int shows, byte[] message, int fault) {
        String what = "mode " + mode + ", shows " + shows + ", " + message.length + " bytes";
        CipherModes x = new CipherModes();
        x.begin(mode, 4, shows);
        int count = Calls.feedAll(x, message, 8);
        CHECKS.due(what, count, Reference.dueCount(mode, shows, message.length));
        byte[] before = Calls.allGiven(x);
        CHECKS.due(what + ": end", x.end(), -100 - fault);
        CHECKS.due(what + ": end again", x.end(), CipherModes.NO);
        CHECKS.due(what + ": feed", x.feed(0, 1), CipherModes.NO);
        CHECKS.due(what + ": given before", before.length, count);
        Calls.dueGiven(CHECKS, what, x, before);
    }

    /** All last blocks of this kind: bytes before, then n bytes of value v. */
    private static void paddings() {
        for (int n = 0; n <= 16; n++) {
            for (int v : new int[] {0, 1, 2, 3, 8, 15, 16, 17, 18, 32, 127, 128, 129, 240, 241, 255}) {
                byte[] message = new byte[32];
                Arrays.fill(message, (byte) 77);
                Arrays.fill(message, 32 - n, 32, (byte) v);
                showPadded(message, n >= 1 && v >= 1 && v <= 16 && v <= n ? v : 0);
            }
        }
        for (int v = 2; v <= 16; v++) {
            for (int at = 16 - v; at < 15; at++) {
                byte[] message = new byte[16];
                Arrays.fill(message, (byte) v);
                message[at] ^= 0x40;
                showPadded(message, 0);
                message[at] = (byte) (v - 1);
                showPadded(message, 0);
            }
        }
    }

    /** The message has its padding with it; padding 0 stands for one that hiding doesn't put there. */
    private static void showPadded(byte[] message, int padding) {
        byte[] hidden = new Reference(new byte[64], new byte[16], 6).hide(1, message);
        CipherModes x = new CipherModes();
        x.begin(2, 6, 1);
        int count = Calls.feedAll(x, hidden, 8);
        CHECKS.due("one block waits", count, message.length - 16);
        int want = padding == 0 ? -102 : message.length - padding;
        CHECKS.due("padding " + Arrays.toString(message), x.end(), want);
        CHECKS.due("ended", x.end(), CipherModes.NO);
        byte[] shown = Arrays.copyOf(message, padding == 0 ? message.length - 16 : message.length - padding);
        Calls.dueGiven(CHECKS, "padding", x, shown);
    }

    private static void shortestPadded() {
        CipherModes x = new CipherModes();
        x.begin(2, 4, 0);
        CHECKS.due("nothing, padded", x.end(), 16);
        byte[] hidden = Calls.allGiven(x);
        x.begin(2, 4, 1);
        CHECKS.due("it waits", Calls.feedAll(x, hidden, 8), 0);
        CHECKS.due("and nothing is shown", x.end(), 0);
        CHECKS.due("given(0)", x.given(0), CipherModes.BAD);
    }
}
