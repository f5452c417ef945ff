import java.util.Arrays;
import javax.crypto.Cipher;
import javax.crypto.spec.IvParameterSpec;
import javax.crypto.spec.SecretKeySpec;

/** The modes over whole messages, by Java's own cipher: nothing of it is shared with the class. */
final class Reference {
    private final byte[] keyRow;
    private final byte[] initial;
    private final int words;

    /** The row has the 64 bytes from which keys are taken. */
    Reference(byte[] keyRow, byte[] initial, int words) {
        this.keyRow = keyRow;
        this.initial = initial;
        this.words = words;
    }

    byte[] hide(int mode, byte[] m) {
        switch (mode) {
            case 3:
            case 4:
            case 5:
                return hideStolen(mode, m);
            case 10:
                return xts(m, true);
            default:
                return library(nameOf(mode), true, m);
        }
    }

    /** What the message was; by mode 2 with its padding still there. */
    byte[] show(int mode, byte[] c) {
        switch (mode) {
            case 2:
                return library("CBC/NoPadding", false, c);
            case 3:
            case 4:
            case 5:
                return showStolen(mode, c);
            case 10:
                return xts(c, false);
            default:
                return library(nameOf(mode), false, c);
        }
    }

    /** How many bytes are given out when t have come, before the end. */
    static int dueCount(int mode, int shows, int t) {
        if (mode >= 6 && mode <= 9) {
            return t;
        }
        int behind = mode >= 3 ? 17 : mode == 2 && shows == 1 ? 1 : 0;
        int blocks = 0;
        while (t - 16 * (blocks + 1) >= behind) {
            blocks++;
        }
        return 16 * blocks;
    }

    static boolean canBeHidden(int mode, int t) {
        if (mode <= 1) {
            return t % 16 == 0;
        }
        return mode == 2 || (mode >= 6 && mode <= 9) || t >= 16;
    }

    static boolean canBeShown(int mode, int t) {
        return mode == 2 ? t > 0 && t % 16 == 0 : canBeHidden(mode, t);
    }

    private static String nameOf(int mode) {
        return new String[] {"ECB/NoPadding", "CBC/NoPadding", "CBC/PKCS5Padding", "", "", "", "CTR/NoPadding",
            "OFB/NoPadding", "CFB/NoPadding", "CFB8/NoPadding"}[mode];
    }

    private byte[] hideStolen(int mode, byte[] m) {
        int blocks = (m.length + 15) / 16;
        byte[] c = library("CBC/NoPadding", true, Arrays.copyOf(m, 16 * blocks));
        if (blocks == 1) {
            return c;
        }
        int d = m.length - 16 * (blocks - 1);
        byte[] front = Arrays.copyOf(c, 16 * (blocks - 2));
        byte[] y = Arrays.copyOfRange(c, 16 * (blocks - 2), 16 * (blocks - 2) + d);
        byte[] z = Arrays.copyOfRange(c, 16 * (blocks - 1), 16 * blocks);
        boolean straight = mode == 3 || (mode == 4 && d == 16);
        return straight ? Calls.joined(front, y, z) : Calls.joined(front, z, y);
    }

    /** Puts the whole blocks in their order again, and shows them as by mode 1. */
    private byte[] showStolen(int mode, byte[] c) {
        int blocks = (c.length + 15) / 16;
        if (blocks == 1) {
            return library("CBC/NoPadding", false, c);
        }
        int d = c.length - 16 * (blocks - 1);
        int tail = 16 * (blocks - 2);
        boolean straight = mode == 3 || (mode == 4 && d == 16);
        int yAt = straight ? tail : tail + 16;
        int zAt = straight ? tail + d : tail;
        byte[] y = Arrays.copyOfRange(c, yAt, yAt + d);
        byte[] z = Arrays.copyOfRange(c, zAt, zAt + 16);
        byte[] cutOff = Arrays.copyOfRange(library("ECB/NoPadding", false, z), d, 16);
        byte[] whole = Calls.joined(Arrays.copyOf(c, tail), y, cutOff, z);
        return Arrays.copyOf(library("CBC/NoPadding", false, whole), c.length);
    }

    private byte[] xts(byte[] m, boolean hides) {
        byte[] answer = m.clone();
        int whole = m.length / 16;
        int d = m.length % 16;
        byte[][] tweaks = tweaks(whole + 1);
        for (int i = 0; i < (d == 0 ? whole : whole - 1); i++) {
            System.arraycopy(under(tweaks[i], m, 16 * i, hides), 0, answer, 16 * i, 16);
        }
        if (d != 0) {
            int last = 16 * (whole - 1);
            byte[] x = under(tweaks[hides ? whole - 1 : whole], m, last, hides);
            byte[] filled = Arrays.copyOf(Arrays.copyOfRange(m, last + 16, m.length), 16);
            System.arraycopy(x, d, filled, d, 16 - d);
            System.arraycopy(under(tweaks[hides ? whole : whole - 1], filled, 0, hides), 0, answer, last, 16);
            System.arraycopy(x, 0, answer, last + 16, d);
        }
        return answer;
    }

    private byte[][] tweaks(int n) {
        byte[] second = Arrays.copyOfRange(keyRow, 4 * words, 8 * words);
        byte[][] tweaks = new byte[n][];
        tweaks[0] = run("ECB/NoPadding", true, second, initial);
        for (int i = 1; i < n; i++) {
            tweaks[i] = new byte[16];
            for (int j = 0; j < 16; j++) {
                int below = j == 0 ? 0 : (tweaks[i - 1][j - 1] & 255) >> 7;
                tweaks[i][j] = (byte) (tweaks[i - 1][j] * 2 + below);
            }
            if (tweaks[i - 1][15] < 0) {
                tweaks[i][0] ^= (byte) 135;
            }
        }
        return tweaks;
    }

    private byte[] under(byte[] tweak, byte[] row, int from, boolean hides) {
        byte[] block = Arrays.copyOfRange(row, from, from + 16);
        return xor(library("ECB/NoPadding", hides, xor(block, tweak)), tweak);
    }

    private static byte[] xor(byte[] a, byte[] b) {
        // No clone of a: see .ci/run on small copies into new arrays.
        byte[] sum = new byte[a.length];
        for (int i = 0; i < sum.length; i++) {
            sum[i] = (byte) (a[i] ^ b[i]);
        }
        return sum;
    }

    byte[] library(String name, boolean hides, byte[] row) {
        return run(name, hides, Arrays.copyOf(keyRow, 4 * words), row);
    }

    private byte[] run(String name, boolean hides, byte[] key, byte[] row) {
        try {
            Cipher cipher = Cipher.getInstance("AES/" + name);
            int way = hides ? Cipher.ENCRYPT_MODE : Cipher.DECRYPT_MODE;
            SecretKeySpec spec = new SecretKeySpec(key, "AES");
            if (name.startsWith("ECB")) {
                cipher.init(way, spec);
            } else {
                cipher.init(way, spec, new IvParameterSpec(initial));
            }
            return cipher.doFinal(row);
        } catch (java.security.GeneralSecurityException e) {
            throw new IllegalStateException(name, e);
        }
    }
}
