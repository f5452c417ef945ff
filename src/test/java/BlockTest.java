import java.util.Random;

/** Promise 8: block(). */
public final class BlockTest {
    private static final Checks CHECKS = new Checks();

    public static void main(String[] args) {
        published();
        manyKeys();
        wrongArguments();
        leavesTheMessageAlone();
        CHECKS.close("BlockTest");
    }

    private static void published() {
        byte[] key = Calls.hex("000102030405060708090a0b0c0d0e0f101112131415161718191a1b1c1d1e1f");
        byte[] clear = Calls.hex("00112233445566778899aabbccddeeff");
        String[] hidden = {"69c4e0d86a7b0430d8cdb78070b4c55a", "dda97ca4864cdfe06eaf70a0ec0d7191",
            "8ea2b7ca516745bfeafc49904b496089"};
        for (int words = 4; words <= 8; words += 2) {
            byte[] want = Calls.hex(hidden[words / 2 - 2]);
            dueBlock("published, hidden", Calls.made(key, clear), words, 0, want);
            dueBlock("published, shown", Calls.made(key, want), words, 1, clear);
        }
    }

    private static void dueBlock(String what, CipherModes x, int words, int shows, byte[] want) {
        CHECKS.due(what + " 0", x.block(words, shows, 0), Calls.longAt(want, 0));
        CHECKS.due(what + " 1", x.block(words, shows, 1), Calls.longAt(want, 8));
    }

    private static void manyKeys() {
        Random random = new Random(8);
        byte[] row = new byte[64];
        byte[] block = new byte[16];
        for (int i = 0; i < 300; i++) {
            random.nextBytes(row);
            random.nextBytes(block);
            CipherModes x = Calls.made(row, block);
            for (int words = 4; words <= 8; words += 2) {
                Reference reference = new Reference(row, block, words);
                dueBlock("hidden", x, words, 0, reference.library("ECB/NoPadding", true, block));
                dueBlock("shown", x, words, 1, reference.library("ECB/NoPadding", false, block));
            }
        }
    }

    private static void wrongArguments() {
        int[] edges = {-1, 0, 1, 2, 3, 4, 5, 6, 7, 8, 9, 10, 12, 16, Integer.MIN_VALUE, Integer.MAX_VALUE};
        for (int words : edges) {
            CipherModes x = new CipherModes();
            for (int shows : edges) {
                for (int i : edges) {
                    boolean fine = (words == 4 || words == 6 || words == 8) && (shows == 0 || shows == 1) && (i == 0 || i == 1);
                    if (!fine) {
                        CHECKS.due("block(" + words + ", " + shows + ", " + i + ")", x.block(words, shows, i), 0L);
                    }
                }
            }
        }
    }

    private static void leavesTheMessageAlone() {
        byte[] message = new byte[50];
        new Random(9).nextBytes(message);
        for (int mode = 2; mode <= 10; mode++) {
            CipherModes x = new CipherModes();
            x.begin(mode, 4, 0);
            for (int i = 0; i < message.length; i += 5) {
                Calls.feedPiece(x, message, i, 5);
                x.key(i % 8, i);
                x.initial(i % 2, i);
                x.block(8, i % 2, 0);
                x.block(4, 1, 1);
                x.block(5, 1, 1);
            }
            x.end();
            Calls.dueGiven(CHECKS, "mode " + mode, x, new Reference(new byte[64], new byte[16], 4).hide(mode, message));
        }
    }
}
