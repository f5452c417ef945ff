import java.util.Random;

/** Promise 2: key(). */
public final class KeyTest {
    private static final Checks CHECKS = new Checks();

    public static void main(String[] args) {
        everyLongCounts();
        wrongPlacesChangeNothing();
        isForTheNextBegin();
        CHECKS.close("KeyTest");
    }

    private static void everyLongCounts() {
        Random random = new Random(2);
        byte[] row = new byte[64];
        byte[] initial = new byte[16];
        byte[] message = new byte[40];
        random.nextBytes(message);
        CipherModes x = new CipherModes();
        for (int i = 7; i >= 0; i--) {
            long v = random.nextLong();
            CHECKS.due("key(" + i + ")", x.key(i, v), true);
            Calls.putLong(row, 8 * i, v);
            CHECKS.due("begin", x.begin(10, 8, 0), 0);
            Calls.feedAll(x, message, 8);
            x.end();
            Calls.dueGiven(CHECKS, "key " + i, x, new Reference(row, initial, 8).hide(10, message));
        }
    }

    private static void wrongPlacesChangeNothing() {
        CipherModes x = new CipherModes();
        long before = x.block(8, 0, 0);
        int[] wrong = {-1, 8, 9, 64, -8, Integer.MIN_VALUE, Integer.MAX_VALUE, 1 << 29, 1 << 28};
        for (int i : wrong) {
            CHECKS.due("key(" + i + ")", x.key(i, -1), false);
            CHECKS.due("block after key(" + i + ")", x.block(8, 0, 0), before);
        }
        CHECKS.due("key(7)", x.key(7, 5), true);
        CHECKS.due("key(0)", x.key(0, 5), true);
    }

    private static void isForTheNextBegin() {
        byte[] message = new byte[48];
        new Random(3).nextBytes(message);
        byte[] zeros = new byte[64];
        byte[] ones = new byte[64];
        java.util.Arrays.fill(ones, (byte) -1);
        for (int mode = 0; mode <= 10; mode++) {
            CipherModes x = new CipherModes();
            x.begin(mode, 4, 0);
            for (int i = 0; i < 6; i++) {
                x.key(i % 8, -1);
                Calls.feedPiece(x, message, 8 * i, 8);
            }
            x.key(6, -1);
            x.key(7, -1);
            x.end();
            Calls.dueGiven(CHECKS, "old key, mode " + mode, x, new Reference(zeros, new byte[16], 4).hide(mode, message));
            x.begin(mode, 4, 0);
            Calls.feedAll(x, message, 8);
            x.end();
            Calls.dueGiven(CHECKS, "new key, mode " + mode, x, new Reference(ones, new byte[16], 4).hide(mode, message));
        }
    }
}
