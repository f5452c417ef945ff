/** Promise 1: keys and initial block are all 0, and nothing has begun. */
public final class NewObjectTest {
    public static void main(String[] args) {
        Checks checks = new Checks();
        CipherModes x = new CipherModes();
        checks.due("new feed", x.feed(1, 1), CipherModes.NO);
        checks.due("new end", x.end(), CipherModes.NO);
        checks.due("new given(0)", x.given(0), CipherModes.BAD);

        byte[] zeros = new byte[64];
        for (int words = 4; words <= 8; words += 2) {
            byte[] hidden = new Reference(zeros, new byte[16], words).hide(0, new byte[16]);
            checks.due("block " + words, x.block(words, 0, 0), Calls.longAt(hidden, 0));
            checks.due("block " + words, x.block(words, 0, 1), Calls.longAt(hidden, 8));
        }
        // All 64 bytes of the row are in use here, and the initial block too.
        byte[] message = Calls.hex("00112233445566778899aabbccddeeff0102030405");
        x.begin(10, 8, 0);
        Calls.feedAll(x, message, 8);
        x.end();
        Calls.dueGiven(checks, "XTS", x, new Reference(zeros, new byte[16], 8).hide(10, message));

        CipherModes y = new CipherModes();
        checks.due("an object of its own", y.feed(1, 1), CipherModes.NO);
        checks.due("an object of its own", y.given(0), CipherModes.BAD);
        checks.due("BAD", CipherModes.BAD, -1);
        checks.due("NO", CipherModes.NO, -2);
        checks.due("FULL", CipherModes.FULL, -3);
        checks.close("NewObjectTest");
    }
}
