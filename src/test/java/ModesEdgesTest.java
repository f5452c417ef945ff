import java.util.Arrays;
import java.util.Random;

/** The boundary cases of MODES, a method for each: what is due is put together from block() by the document's words. */
public final class ModesEdgesTest {
    private static final Checks CHECKS = new Checks();
    private static final byte[] KEYS = bytes(64);
    private static final byte[] INITIAL = part(bytes(99), 83, 99);
    private static final int[] WORDS = {4, 6, 8};

    public static void main(String[] args) {
        chainStartsWithInitial();
        wholeBlockOfPadding();
        stolenOfOneBlock();
        stolenOfTwoBlocks();
        stolenWithWholeLastBlock();
        stolenWithCutLastBlock();
        countedRunsOver();
        fedBackStartsWithInitial();
        cfbStartsWithInitial();
        byBytesStartsWithInitial();
        lastBlockIsCut();
        tweakRunsOver();
        secondKeyIsBehindTheFirst();
        tweakedOfOneBlock();
        tweakedWithCutLastBlock();
        messagesOfNothing();
        shownAgain();
        CHECKS.close("ModesEdgesTest");
    }

    private static byte[] bytes(int n) {
        byte[] row = new byte[n];
        new Random(n).nextBytes(row);
        return row;
    }

    /** E of a block, by block(). */
    private static byte[] hiddenBlock(byte[] keys, int words, byte[] block) {
        return asked(Calls.made(keys, block), words, 0);
    }

    private static byte[] asked(CipherModes x, int words, int shows) {
        byte[] answer = new byte[16];
        Calls.putLong(answer, 0, x.block(words, shows, 0));
        Calls.putLong(answer, 8, x.block(words, shows, 1));
        return answer;
    }

    private static byte[] xor(byte[] a, byte[] b) {
        byte[] sum = new byte[Math.min(a.length, b.length)];
        for (int i = 0; i < sum.length; i++) {
            sum[i] = (byte) (a[i] ^ b[i]);
        }
        return sum;
    }

    private static byte[] part(byte[] row, int from, int to) {
        return Arrays.copyOfRange(row, from, to);
    }

    /** All that is given out for a message, hidden or shown, in pieces of 8. */
    private static byte[] through(byte[] keys, byte[] initial, int[] how, byte[] message) {
        CipherModes x = Calls.made(keys, initial);
        CHECKS.due("begin" + Arrays.toString(how), x.begin(how[0], how[1], how[2]), 0);
        Calls.feedAll(x, message, 8);
        int count = x.end();
        byte[] all = Calls.allGiven(x);
        CHECKS.due("as many as end() says" + Arrays.toString(how), all.length, count);
        return all;
    }

    private static byte[] hidden(int mode, int words, byte[] message) {
        return through(KEYS, INITIAL, new int[] {mode, words, 0}, message);
    }

    private static void dueRow(String what, byte[] got, byte[] want) {
        CHECKS.due(what + ": " + Arrays.toString(got) + " for " + Arrays.toString(want), Arrays.equals(got, want), true);
    }

    private static void chainStartsWithInitial() {
        CHECKS.sentence("0 ECB: Ci = E(Mi). 1 CBC: Ci = E(Mi + C(i-1)), C0 = V");
        byte[] m = bytes(48);
        for (int words : WORDS) {
            byte[] ecb = hidden(0, words, m);
            byte[] cbc = hidden(1, words, m);
            byte[] before = INITIAL;
            for (int i = 0; i < 48; i += 16) {
                byte[] block = part(m, i, i + 16);
                dueRow("ECB", part(ecb, i, i + 16), hiddenBlock(KEYS, words, block));
                dueRow("CBC", part(cbc, i, i + 16), hiddenBlock(KEYS, words, xor(block, before)));
                before = part(cbc, i, i + 16);
            }
        }
    }

    private static void wholeBlockOfPadding() {
        CHECKS.sentence("2 PADDED: as 1, of the message with 1 .. 16 bytes more, each being how many these are, to make whole blocks");
        for (int t : new int[] {0, 1, 15, 16, 17, 31, 32}) {
            byte[] m = bytes(t);
            int more = 16 - t % 16;
            byte[] filled = Arrays.copyOf(m, t + more);
            Arrays.fill(filled, t, t + more, (byte) more);
            for (int words : WORDS) {
                dueRow(t + " and " + more, hidden(2, words, m), hidden(1, words, filled));
            }
        }
    }

    private static void stolenOfOneBlock() {
        CHECKS.sentence("3, 4, 5 STOLEN: With one block: as 1");
        for (int mode = 3; mode <= 5; mode++) {
            for (int words : WORDS) {
                dueRow("mode " + mode, hidden(mode, words, bytes(16)), hidden(1, words, bytes(16)));
            }
        }
    }

    private static void stolenOfTwoBlocks() {
        CHECKS.sentence("3, 4, 5 STOLEN: with n blocks, n > 1: given are C1 .. C(n-2) [none for n = 2], then Y, Z");
        for (int d = 1; d <= 16; d++) {
            byte[] c = hidden(1, 4, Arrays.copyOf(bytes(16 + d), 32));
            byte[] y = part(c, 0, d);
            byte[] z = part(c, 16, 32);
            dueRow("3, d = " + d, hidden(3, 4, bytes(16 + d)), Calls.joined(y, z));
            dueRow("4, d = " + d, hidden(4, 4, bytes(16 + d)), d == 16 ? Calls.joined(y, z) : Calls.joined(z, y));
            dueRow("5, d = " + d, hidden(5, 4, bytes(16 + d)), Calls.joined(z, y));
        }
    }

    private static void stolenWithWholeLastBlock() {
        CHECKS.sentence("then Y Z for 3; for 4 Y Z if d is 16, else Z Y; for 5 Z Y [d = 16]");
        for (int words : WORDS) {
            byte[] c = hidden(1, words, bytes(64));
            byte[] swapped = Calls.joined(part(c, 0, 32), part(c, 48, 64), part(c, 32, 48));
            dueRow("3", hidden(3, words, bytes(64)), c);
            dueRow("4", hidden(4, words, bytes(64)), c);
            dueRow("5", hidden(5, words, bytes(64)), swapped);
        }
    }

    private static void stolenWithCutLastBlock() {
        CHECKS.sentence("then Y Z for 3; for 4 Y Z if d is 16, else Z Y; for 5 Z Y [d = 1 .. 15], the last block with 0s behind it");
        for (int d = 1; d <= 15; d++) {
            byte[] m = bytes(32 + d);
            byte[] c = hidden(1, 8, Arrays.copyOf(m, 48));
            byte[] y = part(c, 16, 16 + d);
            byte[] z = part(c, 32, 48);
            dueRow("3, d = " + d, hidden(3, 8, m), Calls.joined(part(c, 0, 16), y, z));
            dueRow("4, d = " + d, hidden(4, 8, m), Calls.joined(part(c, 0, 16), z, y));
            dueRow("5, d = " + d, hidden(5, 8, m), Calls.joined(part(c, 0, 16), z, y));
        }
    }

    private static void countedRunsOver() {
        CHECKS.sentence("6 COUNTED: Mi + E(V + i - 1 as a number of 16 bytes, modulo 2^128)");
        String[][] counts = {
            {"00000000000000000000000000000000", "00000000000000000000000000000001", "00000000000000000000000000000002"},
            {"000000000000000000000000000000fe", "000000000000000000000000000000ff", "00000000000000000000000000000100"},
            {"0000000000000000ffffffffffffffff", "00000000000000010000000000000000", "00000000000000010000000000000001"},
            {"00000000ffffffffffffffffffffffff", "00000001000000000000000000000000", "00000001000000000000000000000001"},
            {"7fffffffffffffffffffffffffffffff", "80000000000000000000000000000000", "80000000000000000000000000000001"},
            {"fffffffffffffffffffffffffffffffe", "ffffffffffffffffffffffffffffffff", "00000000000000000000000000000000"},
            {"ffffffffffffffffffffffffffffffff", "00000000000000000000000000000000", "00000000000000000000000000000001"}};
        for (String[] numbers : counts) {
            byte[] m = bytes(48);
            for (int shows = 0; shows <= 1; shows++) {
                byte[] got = through(KEYS, Calls.hex(numbers[0]), new int[] {6, 4, shows}, m);
                for (int i = 0; i < 3; i++) {
                    byte[] mask = hiddenBlock(KEYS, 4, Calls.hex(numbers[i]));
                    dueRow("from " + numbers[0], part(got, 16 * i, 16 * i + 16), xor(part(m, 16 * i, 16 * i + 16), mask));
                }
            }
        }
    }

    private static void fedBackStartsWithInitial() {
        CHECKS.sentence("7 FED BACK: Mi + Oi, Oi = E(O(i-1)), O0 = V");
        byte[] m = bytes(33);
        byte[] first = hiddenBlock(KEYS, 6, INITIAL);
        byte[] second = hiddenBlock(KEYS, 6, first);
        byte[] masks = Calls.joined(first, second, hiddenBlock(KEYS, 6, second));
        dueRow("hidden", hidden(7, 6, m), xor(m, masks));
        dueRow("shown", through(KEYS, INITIAL, new int[] {7, 6, 1}, m), xor(m, masks));
    }

    private static void cfbStartsWithInitial() {
        CHECKS.sentence("8 CFB: Ci = Mi + E(C(i-1)), C0 = V");
        byte[] m = bytes(33);
        byte[] first = xor(part(m, 0, 16), hiddenBlock(KEYS, 6, INITIAL));
        byte[] second = xor(part(m, 16, 32), hiddenBlock(KEYS, 6, first));
        byte[] third = xor(part(m, 32, 33), hiddenBlock(KEYS, 6, second));
        byte[] c = Calls.joined(first, second, third);
        dueRow("hidden", hidden(8, 6, m), c);
        dueRow("shown", through(KEYS, INITIAL, new int[] {8, 6, 1}, c), m);
    }

    private static void byBytesStartsWithInitial() {
        CHECKS.sentence("9 CFB BY BYTES: S is V at first, and then its last 15 bytes and the hidden byte");
        // 18 bytes: behind the 16th nothing of V is left.
        byte[] m = bytes(18);
        byte[] s = INITIAL.clone();
        byte[] c = new byte[18];
        for (int i = 0; i < 18; i++) {
            c[i] = (byte) (m[i] ^ hiddenBlock(KEYS, 8, s)[0]);
            s = Calls.joined(part(s, 1, 16), new byte[] {c[i]});
        }
        dueRow("hidden", hidden(9, 8, m), c);
        dueRow("shown", through(KEYS, INITIAL, new int[] {9, 8, 1}, c), m);
    }

    private static void lastBlockIsCut() {
        CHECKS.sentence("(6 .. 9: of the last block the first d bytes.)");
        for (int mode = 6; mode <= 9; mode++) {
            byte[] m = bytes(48);
            byte[] whole = hidden(mode, 4, m);
            for (int t = 1; t <= 48; t++) {
                dueRow("mode " + mode + ", " + t, hidden(mode, 4, part(m, 0, t)), part(whole, 0, t));
            }
        }
    }

    /** The initial block for which T1 is this one. */
    private static byte[] initialFor(byte[] tweak, int words) {
        return asked(Calls.made(part(KEYS, 4 * words, 8 * words), tweak), words, 1);
    }

    private static void tweakRunsOver() {
        CHECKS.sentence("T(i+1) is Ti as a number, byte 0 the lowest one, doubled, modulo 2^128, and xor 135 in byte 0 when it would be 2^128 or more");
        String[][] tweaks = {
            {"00000000000000000000000000000000", "00000000000000000000000000000000", "00000000000000000000000000000000"},
            {"01000000000000000000000000000000", "02000000000000000000000000000000", "04000000000000000000000000000000"},
            {"40000000000000000000000000000000", "80000000000000000000000000000000", "00010000000000000000000000000000"},
            {"00000000000000800000000000000000", "00000000000000000100000000000000", "00000000000000000200000000000000"},
            {"00000000000000000000000000000040", "00000000000000000000000000000080", "87000000000000000000000000000000"},
            {"000000000000000000000000000000c0", "87000000000000000000000000000080", "89010000000000000000000000000000"},
            {"ffffffffffffffffffffffffffffff7f", "feffffffffffffffffffffffffffffff", "7bffffffffffffffffffffffffffffff"},
            {"ffffffffffffffffffffffffffffffff", "79ffffffffffffffffffffffffffffff", "75feffffffffffffffffffffffffffff"}};
        for (int words : new int[] {4, 8}) {
            for (String[] row : tweaks) {
                // Of a block that is its own tweak comes E(0) + Ti, so that each Ti is seen.
                byte[] m = Calls.hex(row[0] + row[1] + row[2]);
                byte[] zero = hiddenBlock(KEYS, words, new byte[16]);
                byte[] got = through(KEYS, initialFor(Calls.hex(row[0]), words), new int[] {10, words, 0}, m);
                dueRow("from " + row[0], xor(got, Calls.joined(zero, zero, zero)), m);
            }
        }
    }

    private static void secondKeyIsBehindTheFirst() {
        CHECKS.sentence("10 XTS, with a second key, of bytes behind the first one: T1 = E2(V)");
        for (int words : new int[] {4, 8}) {
            byte[] second = part(KEYS, 4 * words, 8 * words);
            byte[] tweak = hiddenBlock(second, words, INITIAL);
            byte[] want = xor(hiddenBlock(KEYS, words, xor(bytes(16), tweak)), tweak);
            dueRow(words + " words", hidden(10, words, bytes(16)), want);
            // What stands behind the second key doesn't count.
            byte[] others = Arrays.copyOf(Arrays.copyOf(KEYS, 8 * words), 64);
            dueRow(words + " words", through(others, INITIAL, new int[] {10, words, 0}, bytes(16)), want);
        }
    }

    private static void tweakedOfOneBlock() {
        CHECKS.sentence("Ci = E(Mi + Ti) + Ti. If d is not 16 (n > 1): .. [d = 16: each block by itself]");
        byte[] tweak = Calls.hex("01000000000000000000000000000000");
        byte[] doubled = Calls.hex("02000000000000000000000000000000");
        byte[] initial = initialFor(tweak, 4);
        byte[] m = bytes(32);
        byte[] first = xor(hiddenBlock(KEYS, 4, xor(part(m, 0, 16), tweak)), tweak);
        byte[] second = xor(hiddenBlock(KEYS, 4, xor(part(m, 16, 32), doubled)), doubled);
        dueRow("n = 1", through(KEYS, initial, new int[] {10, 4, 0}, part(m, 0, 16)), first);
        dueRow("n = 2", through(KEYS, initial, new int[] {10, 4, 0}, m), Calls.joined(first, second));
        dueRow("n = 2, shown", through(KEYS, initial, new int[] {10, 4, 1}, Calls.joined(first, second)), m);
    }

    private static void tweakedWithCutLastBlock() {
        CHECKS.sentence("Cn is the first d bytes of X, C(n-1) = E(Mn and the last 16 - d bytes of X, + Tn) + Tn");
        byte[] tweak = Calls.hex("00000000000000000000000000000080");
        byte[] doubled = Calls.hex("87000000000000000000000000000000");
        byte[] initial = initialFor(tweak, 8);
        for (int d = 1; d <= 15; d++) {
            byte[] m = bytes(16 + d);
            byte[] x = xor(hiddenBlock(KEYS, 8, xor(part(m, 0, 16), tweak)), tweak);
            byte[] filled = Calls.joined(part(m, 16, 16 + d), part(x, d, 16));
            byte[] before = xor(hiddenBlock(KEYS, 8, xor(filled, doubled)), doubled);
            byte[] c = Calls.joined(before, part(x, 0, d));
            dueRow("d = " + d, through(KEYS, initial, new int[] {10, 8, 0}, m), c);
            dueRow("shown, d = " + d, through(KEYS, initial, new int[] {10, 8, 1}, c), m);
        }
        byte[] m = bytes(40);
        dueRow("n = 3, C1 is as ever", part(hidden(10, 8, m), 0, 16), hidden(10, 8, part(m, 0, 16)));
    }

    private static void messagesOfNothing() {
        CHECKS.sentence("M is the message, in blocks M1, M2, .. [none]");
        byte[] nothing = new byte[0];
        for (int mode : new int[] {0, 1, 6, 7, 8, 9}) {
            dueRow("hidden by " + mode, hidden(mode, 4, nothing), nothing);
            dueRow("shown by " + mode, through(KEYS, INITIAL, new int[] {mode, 4, 1}, nothing), nothing);
        }
        byte[] padding = new byte[16];
        Arrays.fill(padding, (byte) 16);
        byte[] c = hiddenBlock(KEYS, 4, xor(padding, INITIAL));
        dueRow("hidden by 2", hidden(2, 4, nothing), c);
        dueRow("shown by 2", through(KEYS, INITIAL, new int[] {2, 4, 1}, c), nothing);
    }

    private static void shownAgain() {
        CHECKS.sentence("SHOWING a message gives for C what M was");
        for (int mode = 0; mode <= 10; mode++) {
            for (int words : WORDS) {
                for (int t : new int[] {0, 1, 15, 16, 17, 31, 32, 33, 47, 48, 49}) {
                    if (Reference.canBeHidden(mode, t) && !(mode == 10 && words == 6)) {
                        byte[] c = hidden(mode, words, bytes(t));
                        dueRow(t + " by " + mode, through(KEYS, INITIAL, new int[] {mode, words, 1}, c), bytes(t));
                    }
                }
            }
        }
    }
}
