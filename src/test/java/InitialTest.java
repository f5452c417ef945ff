import java.util.Random;

/** Promise 3: initial(). */
public final class InitialTest {
    private static final Checks CHECKS = new Checks();

    public static void main(String[] args) {
        bothLongsCount();
        wrongPlacesChangeNothing();
        isForTheNextBegin();
        CHECKS.close("InitialTest");
    }

    private static void bothLongsCount() {
        CipherModes x = new CipherModes();
        CHECKS.due("initial(0)", x.initial(0, 0x0011223344556677L), true);
        CHECKS.due("initial(1)", x.initial(1, 0x8899AABBCCDDEEFFL), true);
        byte[] hidden = new Reference(new byte[64], new byte[16], 4).hide(0, Calls.hex("00112233445566778899aabbccddeeff"));
        CHECKS.due("block", x.block(4, 0, 0), Calls.longAt(hidden, 0));
        CHECKS.due("block", x.block(4, 0, 1), Calls.longAt(hidden, 8));
        CHECKS.due("initial(1) again", x.initial(1, 0), true);
        hidden = new Reference(new byte[64], new byte[16], 4).hide(0, Calls.hex("00112233445566770000000000000000"));
        CHECKS.due("block", x.block(4, 0, 0), Calls.longAt(hidden, 0));
    }

    private static void wrongPlacesChangeNothing() {
        CipherModes x = new CipherModes();
        long before = x.block(4, 0, 0);
        int[] wrong = {-1, 2, 3, 8, Integer.MIN_VALUE, Integer.MAX_VALUE, 1 << 29};
        for (int i : wrong) {
            CHECKS.due("initial(" + i + ")", x.initial(i, -1), false);
            CHECKS.due("block after initial(" + i + ")", x.block(4, 0, 0), before);
        }
    }

    private static void isForTheNextBegin() {
        byte[] message = new byte[48];
        new Random(4).nextBytes(message);
        byte[] ones = new byte[16];
        java.util.Arrays.fill(ones, (byte) -1);
        for (int mode = 0; mode <= 10; mode++) {
            CipherModes x = new CipherModes();
            x.begin(mode, 4, 0);
            x.initial(0, -1);
            Calls.feedAll(x, message, 7);
            x.initial(1, -1);
            x.end();
            Calls.dueGiven(CHECKS, "old one, mode " + mode, x, new Reference(new byte[64], new byte[16], 4).hide(mode, message));
            // The initial block stays as it was set, however often a message begins.
            for (int i = 0; i < 2; i++) {
                x.begin(mode, 4, 0);
                Calls.feedAll(x, message, 8);
                x.end();
            }
            Calls.dueGiven(CHECKS, "new one, mode " + mode, x, new Reference(new byte[64], ones, 4).hide(mode, message));
        }
    }
}
