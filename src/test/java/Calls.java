import java.io.ByteArrayOutputStream;

/** Runs of calls that many tests make. */
final class Calls {
    private Calls() {
    }

    static byte[] hex(String text) {
        String digits = text.replace(" ", "");
        byte[] row = new byte[digits.length() / 2];
        for (int i = 0; i < row.length; i++) {
            row[i] = (byte) Integer.parseInt(digits.substring(2 * i, 2 * i + 2), 16);
        }
        return row;
    }

    static byte[] joined(byte[]... rows) {
        ByteArrayOutputStream all = new ByteArrayOutputStream();
        for (byte[] row : rows) {
            all.writeBytes(row);
        }
        return all.toByteArray();
    }

    static long longAt(byte[] row, int from) {
        long v = 0;
        for (int i = 0; i < 8; i++) {
            v = (v << 8) | (row[from + i] & 255);
        }
        return v;
    }

    static void putLong(byte[] row, int from, long v) {
        for (int i = 0; i < 8; i++) {
            row[from + i] = (byte) (v >> (56 - 8 * i));
        }
    }

    /** Puts a key of a multiple of 8 bytes at the front of the row of keys. */
    static void setKey(CipherModes x, byte[] key) {
        for (int i = 0; i < key.length / 8; i++) {
            x.key(i, longAt(key, 8 * i));
        }
    }

    static void setInitial(CipherModes x, byte[] initial) {
        x.initial(0, longAt(initial, 0));
        x.initial(1, longAt(initial, 8));
    }

    static CipherModes made(byte[] key, byte[] initial) {
        CipherModes x = new CipherModes();
        setKey(x, key);
        setInitial(x, initial);
        return x;
    }

    /** Feeds n bytes of the row as one piece; the bytes above them in the long are rubbish. */
    static int feedPiece(CipherModes x, byte[] row, int from, int n) {
        long bytes = 0xA5C3_96F0_5A3C_690FL;
        for (int i = 0; i < n; i++) {
            bytes = (bytes << 8) | (row[from + i] & 255);
        }
        return x.feed(bytes, n);
    }

    /** Feeds the row in pieces of n bytes (the last one shorter): the last answer, 0 for an empty row. */
    static int feedAll(CipherModes x, byte[] row, int n) {
        int answer = 0;
        for (int from = 0; from < row.length; from += n) {
            answer = feedPiece(x, row, from, Math.min(n, row.length - from));
        }
        return answer;
    }

    /** All that was given out, as far as given() answers bytes. */
    static byte[] allGiven(CipherModes x) {
        ByteArrayOutputStream all = new ByteArrayOutputStream();
        for (int i = 0; i < 5000 && x.given(i) != CipherModes.BAD; i++) {
            all.write(x.given(i));
        }
        return all.toByteArray();
    }

    static void dueGiven(Checks checks, String what, CipherModes x, byte[] want) {
        for (int i = 0; i < want.length; i++) {
            checks.due(what + " given(" + i + ")", x.given(i), want[i] & 255);
        }
        checks.due(what + " given(" + want.length + ")", x.given(want.length), CipherModes.BAD);
    }
}
