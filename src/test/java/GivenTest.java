/** Promise 7: given(). */
public final class GivenTest {
    private static final Checks CHECKS = new Checks();

    public static void main(String[] args) {
        placesWithoutAByte();
        onlyWhatIsGivenOutYet();
        staysTillTheNextBegin();
        CHECKS.close("GivenTest");
    }

    private static void placesWithoutAByte() {
        CipherModes x = new CipherModes();
        int[] wrong = {-1, 20, 21, 4095, 4096, 4111, 4112, 5000, Integer.MIN_VALUE, Integer.MAX_VALUE};
        x.begin(8, 4, 0);
        Calls.feedAll(x, new byte[20], 8);
        for (int i : wrong) {
            CHECKS.due("given(" + i + ")", x.given(i), CipherModes.BAD);
        }
        CHECKS.due("given(19) is there", x.given(19) >= 0 && x.given(19) <= 255, true);
    }

    private static void onlyWhatIsGivenOutYet() {
        byte[] message = new byte[60];
        new java.util.Random(7).nextBytes(message);
        for (int mode = 2; mode <= 10; mode++) {
            byte[] hidden = new Reference(new byte[64], new byte[16], 4).hide(mode, message);
            CipherModes x = new CipherModes();
            x.begin(mode, 4, 0);
            for (int t = 1; t <= message.length; t++) {
                int count = Calls.feedPiece(x, message, t - 1, 1);
                CHECKS.due("count at " + t, count, Reference.dueCount(mode, 0, t));
                if (count > 0) {
                    CHECKS.due("last one", x.given(count - 1), hidden[count - 1] & 255);
                }
                CHECKS.due("one behind it", x.given(count), CipherModes.BAD);
            }
        }
    }

    private static void staysTillTheNextBegin() {
        CipherModes x = new CipherModes();
        x.begin(6, 4, 0);
        x.feed(0x0102030405L, 5);
        x.end();
        byte[] want = new Reference(new byte[64], new byte[16], 4).hide(6, new byte[] {1, 2, 3, 4, 5});
        x.key(0, 9);
        x.initial(0, 9);
        x.block(4, 1, 0);
        x.feed(1, 1);
        x.end();
        x.begin(6, 5, 0);
        Calls.dueGiven(CHECKS, "stays", x, want);
        x.begin(6, 4, 0);
        for (int i = 0; i < 5; i++) {
            CHECKS.due("gone", x.given(i), CipherModes.BAD);
        }
    }
}
