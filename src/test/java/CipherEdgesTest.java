/** The boundary cases of the terms PRODUCT, THE BOX, LONG and THE CIPHER, a method for each sentence. */
public final class CipherEdgesTest {
    private static final Checks CHECKS = new Checks();

    public static void main(String[] args) {
        productIsModulo();
        boxOfNothing();
        boxBitsRunOverTheEnd();
        longHasHighestFirst();
        keyEndsWhereItEnds();
        roundKeysWithWrappingPowers();
        roundKeysOfSixWords();
        roundKeysOfEightWords();
        lastRoundIsNotMixed();
        showingUndoesHiding();
        CHECKS.close("CipherEdgesTest");
    }

    private static void productIsModulo() {
        CHECKS.sentence("its PRODUCT with another one is modulo x^8 + x^4 + x^3 + x + 1");
        CipherModes x = new CipherModes();
        int[][] due = {
            {0, 0, 0}, {0, 255, 0}, {255, 0, 0}, {1, 255, 255}, {255, 1, 255},
            // Just below x^8, just at it, and as far above it as it goes.
            {64, 2, 128}, {2, 64, 128}, {128, 2, 27}, {2, 128, 27}, {16, 16, 27}, {128, 128, 154}, {255, 255, 19},
            {0x57, 0x83, 0xC1}, {0x57, 0x13, 0xFE}, {3, 246, 1}, {2, 141, 1}};
        for (int[] row : due) {
            CHECKS.due("product(" + row[0] + ", " + row[1] + ")", x.product(row[0], row[1]), row[2]);
        }
    }

    private static void boxOfNothing() {
        CHECKS.sentence("b the one whose product with a is 1 (0 for 0)");
        CipherModes x = new CipherModes();
        CHECKS.due("box(0, 0)", x.box(0, 0), 99);
        CHECKS.due("box(99, 1)", x.box(99, 1), 0);
        CHECKS.due("the one whose box is 0", x.box(0, 1), 82);
        CHECKS.due("box(82, 0)", x.box(82, 0), 0);
    }

    private static void boxBitsRunOverTheEnd() {
        CHECKS.sentence("the sum of bits i, i + 4, i + 5, i + 6, i + 7 (modulo 8) of b and of bit i of 99");
        CipherModes x = new CipherModes();
        // The bytes whose b is one bit alone: b = 1, 2, 4, .., 128.
        int[] a = {1, 141, 203, 232, 116, 58, 29, 131};
        int[] box = {124, 93, 31, 155, 146, 128, 164, 236};
        for (int i = 0; i < 8; i++) {
            CHECKS.due("b of " + a[i], x.product(a[i], 1 << i), 1);
            CHECKS.due("box(" + a[i] + ", 0)", x.box(a[i], 0), box[i]);
            CHECKS.due("box(" + box[i] + ", 1)", x.box(box[i], 1), a[i]);
        }
        CHECKS.due("box(255, 0)", x.box(255, 0), 22);
        CHECKS.due("box(22, 1)", x.box(22, 1), 255);
        CHECKS.due("box(255, 1)", x.box(255, 1), 125);
        CHECKS.due("box(125, 0)", x.box(125, 0), 255);
    }

    private static void longHasHighestFirst() {
        CHECKS.sentence("BYTES of a row are numbered from 0; a LONG is eight of them, the highest first");
        byte[] row = new byte[64];
        byte[] initial = new byte[16];
        // One bit at each end of each LONG, the sign among them.
        for (int i = 0; i < 8; i++) {
            for (long v : new long[] {1, Long.MIN_VALUE, 0x80, 0x100, 0xFFL << 56, -1, 0x7FFFFFFFFFFFFFFFL}) {
                java.util.Arrays.fill(row, (byte) 0);
                Calls.putLong(row, 8 * i, v);
                Calls.putLong(initial, 8 * (i % 2), ~v);
                CipherModes x = Calls.made(row, initial);
                dueBlock("LONG " + i + " is " + v, x, 8, new Reference(row, initial, 8).hide(0, initial));
            }
        }
    }

    private static void dueBlock(String what, CipherModes x, int words, byte[] want) {
        CHECKS.due(what + ", block(" + words + ", 0, 0)", x.block(words, 0, 0), Calls.longAt(want, 0));
        CHECKS.due(what + ", block(" + words + ", 0, 1)", x.block(words, 0, 1), Calls.longAt(want, 8));
    }

    private static void keyEndsWhereItEnds() {
        CHECKS.sentence("THE CIPHER with a key of 4 w bytes (w = 4, 6, 8)");
        for (int words = 4; words <= 8; words += 2) {
            for (int i = 0; i < 8; i++) {
                CipherModes x = new CipherModes();
                long before = x.block(words, 0, 0);
                x.key(i, i % 2 == 0 ? 1 : Long.MIN_VALUE);
                boolean inKey = i < words / 2;
                CHECKS.due(words + " words, other LONG " + i, x.block(words, 0, 0) != before, inKey);
            }
        }
    }

    private static void roundKeysWithWrappingPowers() {
        CHECKS.sentence("the first byte xor the product of x with itself i / w - 1 times (1 for i = w)");
        // With w = 4 these products go over x^8: for the words 36 and 40 they are 27 and 54.
        dueBlock("a key of 0s", new CipherModes(), 4, Calls.hex("66e94bd4ef8a2c3b884cfa59ca342b2e"));
        byte[] key = Calls.hex("2b7e151628aed2a6abf7158809cf4f3c");
        byte[] clear = Calls.hex("3243f6a8885a308d313198a2e0370734");
        dueBlock("printed", Calls.made(key, clear), 4, Calls.hex("3925841d02dc09fbdc118597196a0b32"));
    }

    private static void roundKeysOfSixWords() {
        CHECKS.sentence("if w divides i, that turned, each byte's box taken");
        // With w = 6 the last word (51) is not the one before a multiple of w.
        dueBlock("a key of 0s", new CipherModes(), 6, Calls.hex("aae06992acbf52a3e8f4a96ec9300bd7"));
        byte[] key = Calls.hex("8e73b0f7da0e6452c810f32b809079e562f8ead2522c6b7b");
        byte[] clear = Calls.hex("6bc1bee22e409f96e93d7e117393172a");
        dueBlock("printed", Calls.made(key, clear), 6, Calls.hex("bd334f1d6e45f25ff712a214571fa5cc"));
    }

    private static void roundKeysOfEightWords() {
        CHECKS.sentence("else, if w = 8 and 4 is left of i divided by 8, each byte's box");
        dueBlock("a key of 0s", new CipherModes(), 8, Calls.hex("dc95c078a2408989ad48a21492842087"));
        byte[] key = Calls.hex("603deb1015ca71be2b73aef0857d77811f352c073b6108d72d9810a30914dff4");
        byte[] clear = Calls.hex("6bc1bee22e409f96e93d7e117393172a");
        dueBlock("printed", Calls.made(key, clear), 8, Calls.hex("f3eed1bdb5d2a03c064b5a7e3db181f8"));
    }

    private static void lastRoundIsNotMixed() {
        CHECKS.sentence("w + 6 ROUNDS .. but in the last round each column becomes ..");
        byte[] key = Calls.hex("000102030405060708090a0b0c0d0e0f101112131415161718191a1b1c1d1e1f");
        byte[] clear = Calls.hex("00112233445566778899aabbccddeeff");
        dueBlock("10 rounds", Calls.made(key, clear), 4, Calls.hex("69c4e0d86a7b0430d8cdb78070b4c55a"));
        dueBlock("12 rounds", Calls.made(key, clear), 6, Calls.hex("dda97ca4864cdfe06eaf70a0ec0d7191"));
        dueBlock("14 rounds", Calls.made(key, clear), 8, Calls.hex("8ea2b7ca516745bfeafc49904b496089"));
    }

    private static void showingUndoesHiding() {
        CHECKS.sentence("SHOWING undoes that");
        for (int words = 4; words <= 8; words += 2) {
            for (long edge : new long[] {0, -1, 1, Long.MIN_VALUE, Long.MAX_VALUE}) {
                CipherModes x = new CipherModes();
                x.key(1, edge);
                x.key(words / 2 - 1, ~edge);
                x.initial(0, edge);
                x.initial(1, ~edge);
                long high = x.block(words, 0, 0);
                long low = x.block(words, 0, 1);
                x.initial(0, high);
                x.initial(1, low);
                CHECKS.due("shown again", x.block(words, 1, 0), edge);
                CHECKS.due("shown again", x.block(words, 1, 1), ~edge);
            }
        }
    }
}
