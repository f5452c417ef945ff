/**
 * A cipher of blocks of 16 bytes, in eleven modes, over messages that come in pieces of any length.
 *
 * <p>A row of bytes is an array of ints 0 .. 255. All rows are made in the constructors, so that no
 * later call makes an object.
 */
public final class CipherModes {
    public static final int BAD = -1;
    public static final int NO = -2;
    public static final int FULL = -3;

    private static final int ECB = 0;
    private static final int PADDED = 2;
    private static final int STOLEN_CUT_FIRST = 3;
    private static final int STOLEN_SWAPPED_IF_CUT = 4;
    private static final int STOLEN_SWAPPED = 5;
    private static final int COUNTED = 6;
    private static final int FED_BACK = 7;
    private static final int CFB = 8;
    private static final int CFB_BY_BYTES = 9;
    private static final int XTS = 10;

    private static final int SIZE = 16;
    private static final int KEY_LONGS = 8;
    private static final int INITIAL_LONGS = 2;
    private static final int MOST_BYTES = 4096;

    private static final int NO_FAULT = 0;
    private static final int WRONG_LENGTH = 1;
    private static final int WRONG_PADDING = 2;

    private final Boxes boxes;
    private final int[] keyRow;
    private final int[] initialRow;
    private final int[] work;
    // block() has a cipher of its own, so that a message under way keeps its round keys.
    private final BlockCipher askedCipher;
    private final BlockCipher messageCipher;
    private final Output output;
    private final Mode chained;
    private final Mode stolen;
    private final Mode streamed;
    private final Mode tweaked;
    private Mode current;
    private boolean open;
    private int come;

    public CipherModes() {
        boxes = new Boxes();
        keyRow = new int[8 * KEY_LONGS];
        initialRow = new int[SIZE];
        work = new int[SIZE];
        askedCipher = new BlockCipher(boxes);
        messageCipher = new BlockCipher(boxes);
        output = new Output();
        chained = new ChainedMode(messageCipher, output);
        stolen = new StolenMode(messageCipher, output);
        streamed = new StreamMode(messageCipher, output);
        tweaked = new TweakedMode(messageCipher, output);
        current = chained;
        open = false;
        come = 0;
    }

    public boolean key(int i, long v) {
        if (i < 0 || i >= KEY_LONGS) {
            return false;
        }
        Rows.putLong(keyRow, 8 * i, v);
        return true;
    }

    public boolean initial(int i, long v) {
        if (i < 0 || i >= INITIAL_LONGS) {
            return false;
        }
        Rows.putLong(initialRow, 8 * i, v);
        return true;
    }

    public int begin(int mode, int words, int shows) {
        if (mode < ECB || mode > XTS || !isKeySize(words) || !isDirection(shows)) {
            return BAD;
        }
        if (mode == XTS && words == 6) {
            return BAD;
        }
        Rows.copy(initialRow, work);
        if (mode == XTS) {
            // The second key hides only this one block, so the cipher can take the first key after it.
            messageCipher.takeKey(keyRow, 4 * words, words);
            messageCipher.hide(work);
        }
        messageCipher.takeKey(keyRow, 0, words);
        output.clear();
        current = modeOf(mode);
        current.start(mode, shows == 1, work);
        come = 0;
        open = true;
        return 0;
    }

    public int feed(long bytes, int n) {
        if (n < 1 || n > 8) {
            return BAD;
        }
        if (!open) {
            return NO;
        }
        if (come + n > MOST_BYTES) {
            return FULL;
        }
        for (int i = n - 1; i >= 0; i--) {
            current.take((int) (bytes >>> (8 * i)) & 255);
        }
        come += n;
        return output.count();
    }

    public int end() {
        if (!open) {
            return NO;
        }
        open = false;
        int fault = current.finish();
        return fault == NO_FAULT ? output.count() : -100 - fault;
    }

    public int given(int i) {
        return output.at(i);
    }

    public long block(int words, int shows, int i) {
        if (!isKeySize(words) || !isDirection(shows) || i < 0 || i >= INITIAL_LONGS) {
            return 0;
        }
        Rows.copy(initialRow, work);
        askedCipher.takeKey(keyRow, 0, words);
        askedCipher.turn(work, shows == 1);
        return Rows.longAt(work, 8 * i);
    }

    public int box(int a, int back) {
        if (!isByte(a) || !isDirection(back)) {
            return BAD;
        }
        return back == 1 ? boxes.withBox(a) : boxes.boxOf(a);
    }

    public int product(int a, int b) {
        if (!isByte(a) || !isByte(b)) {
            return BAD;
        }
        return Boxes.times(a, b);
    }

    private Mode modeOf(int mode) {
        if (mode <= PADDED) {
            return chained;
        }
        if (mode <= STOLEN_SWAPPED) {
            return stolen;
        }
        return mode <= CFB_BY_BYTES ? streamed : tweaked;
    }

    private static boolean isKeySize(int words) {
        return words == 4 || words == 6 || words == 8;
    }

    private static boolean isDirection(int shows) {
        return shows == 0 || shows == 1;
    }

    private static boolean isByte(int a) {
        return a >= 0 && a <= 255;
    }

    /** Small work on rows of bytes; where no place in a row is told, it is on its first block. */
    private static final class Rows {
        static void putLong(int[] row, int from, long v) {
            for (int i = 0; i < 8; i++) {
                row[from + i] = (int) (v >>> (56 - 8 * i)) & 255;
            }
        }

        static long longAt(int[] row, int from) {
            return ((long) wordAt(row, from) << 32) | (wordAt(row, from + 4) & 0xFFFFFFFFL);
        }

        static void putWord(int[] row, int from, int word) {
            row[from] = word >>> 24;
            row[from + 1] = (word >>> 16) & 255;
            row[from + 2] = (word >>> 8) & 255;
            row[from + 3] = word & 255;
        }

        static int wordAt(int[] row, int from) {
            return (row[from] << 24) | (row[from + 1] << 16) | (row[from + 2] << 8) | row[from + 3];
        }

        static void copy(int[] from, int[] to) {
            System.arraycopy(from, 0, to, 0, SIZE);
        }

        static void xor(int[] into, int[] with) {
            for (int i = 0; i < SIZE; i++) {
                into[i] ^= with[i];
            }
        }
    }

    /** Products of bytes, and the box of each byte with its way back. */
    private static final class Boxes {
        private final int[] forward = new int[256];
        private final int[] backward = new int[256];

        Boxes() {
            // Every byte but 0 is a power of 3, and powers whose exponents add up to 255 have the
            // product 1: so all inverses come from one walk.
            int[] powers = new int[255];
            int power = 1;
            for (int i = 0; i < 255; i++) {
                powers[i] = power;
                power ^= twice(power);
            }
            pair(0, boxOfInverse(0));
            for (int i = 0; i < 255; i++) {
                pair(powers[i], boxOfInverse(powers[(255 - i) % 255]));
            }
        }

        private void pair(int a, int b) {
            forward[a] = b;
            backward[b] = a;
        }

        private static int boxOfInverse(int b) {
            // With the byte written twice, bits that run over its end are found again behind it.
            int wide = b | (b << 8);
            return ((wide ^ (wide >>> 4) ^ (wide >>> 5) ^ (wide >>> 6) ^ (wide >>> 7)) & 255) ^ 99;
        }

        static int twice(int a) {
            return a < 128 ? a << 1 : (a << 1) ^ 0x11B;
        }

        static int times(int a, int b) {
            int sum = 0;
            int shifted = a;
            for (int i = 0; i < 8; i++) {
                if (((b >>> i) & 1) == 1) {
                    sum ^= shifted;
                }
                shifted = twice(shifted);
            }
            return sum;
        }

        int boxOf(int a) {
            return forward[a & 255];
        }

        int withBox(int a) {
            return backward[a & 255];
        }
    }

    /** The cipher of one block. A column of the square is a word, its row 0 the highest byte. */
    private static final class BlockCipher {
        private static final int MOST_KEY_WORDS = 60;

        private final int[] forward;
        private final int[] backward;
        private final int[] roundKeys = new int[MOST_KEY_WORDS];
        private int rounds = 0;

        BlockCipher(Boxes boxes) {
            forward = boxes.forward;
            backward = boxes.backward;
        }

        /** The key of so many words (4, 6, 8) that stands in the row from a place on. */
        void takeKey(int[] row, int from, int words) {
            rounds = words + 6;
            for (int i = 0; i < words; i++) {
                roundKeys[i] = Rows.wordAt(row, from + 4 * i);
            }
            int power = 1;
            for (int i = words; i < 4 * (rounds + 1); i++) {
                int t = roundKeys[i - 1];
                if (i % words == 0) {
                    int turned = (t << 8) | (t >>> 24);
                    t = boxed(turned) ^ (power << 24);
                    power = Boxes.twice(power);
                } else if (words == 8 && i % 8 == 4) {
                    t = boxed(t);
                }
                roundKeys[i] = roundKeys[i - words] ^ t;
            }
        }

        private int boxed(int word) {
            return picked(forward, word, word, word, word);
        }

        void turn(int[] block, boolean shows) {
            if (shows) {
                show(block);
            } else {
                hide(block);
            }
        }

        void hide(int[] block) {
            int a = Rows.wordAt(block, 0) ^ roundKeys[0];
            int b = Rows.wordAt(block, 4) ^ roundKeys[1];
            int c = Rows.wordAt(block, 8) ^ roundKeys[2];
            int d = Rows.wordAt(block, 12) ^ roundKeys[3];
            for (int k = 1; k < rounds; k++) {
                int nextA = mixed(picked(forward, a, b, c, d)) ^ roundKeys[4 * k];
                int nextB = mixed(picked(forward, b, c, d, a)) ^ roundKeys[4 * k + 1];
                int nextC = mixed(picked(forward, c, d, a, b)) ^ roundKeys[4 * k + 2];
                d = mixed(picked(forward, d, a, b, c)) ^ roundKeys[4 * k + 3];
                a = nextA;
                b = nextB;
                c = nextC;
            }
            int last = 4 * rounds;
            Rows.putWord(block, 0, picked(forward, a, b, c, d) ^ roundKeys[last]);
            Rows.putWord(block, 4, picked(forward, b, c, d, a) ^ roundKeys[last + 1]);
            Rows.putWord(block, 8, picked(forward, c, d, a, b) ^ roundKeys[last + 2]);
            Rows.putWord(block, 12, picked(forward, d, a, b, c) ^ roundKeys[last + 3]);
        }

        void show(int[] block) {
            int last = 4 * rounds;
            int a = Rows.wordAt(block, 0) ^ roundKeys[last];
            int b = Rows.wordAt(block, 4) ^ roundKeys[last + 1];
            int c = Rows.wordAt(block, 8) ^ roundKeys[last + 2];
            int d = Rows.wordAt(block, 12) ^ roundKeys[last + 3];
            // Mixing four times changes nothing: so three times more undo the one of a round.
            for (int k = rounds - 1; k > 0; k--) {
                int nextA = mixed(mixedTwice(picked(backward, a, d, c, b) ^ roundKeys[4 * k]));
                int nextB = mixed(mixedTwice(picked(backward, b, a, d, c) ^ roundKeys[4 * k + 1]));
                int nextC = mixed(mixedTwice(picked(backward, c, b, a, d) ^ roundKeys[4 * k + 2]));
                d = mixed(mixedTwice(picked(backward, d, c, b, a) ^ roundKeys[4 * k + 3]));
                a = nextA;
                b = nextB;
                c = nextC;
            }
            Rows.putWord(block, 0, picked(backward, a, d, c, b) ^ roundKeys[0]);
            Rows.putWord(block, 4, picked(backward, b, a, d, c) ^ roundKeys[1]);
            Rows.putWord(block, 8, picked(backward, c, b, a, d) ^ roundKeys[2]);
            Rows.putWord(block, 12, picked(backward, d, c, b, a) ^ roundKeys[3]);
        }

        /** From the table, for one byte of each word: the highest of a, .., the lowest of d. */
        private static int picked(int[] table, int a, int b, int c, int d) {
            return (table[a >>> 24] << 24)
                    | (table[(b >>> 16) & 255] << 16)
                    | (table[(c >>> 8) & 255] << 8)
                    | table[d & 255];
        }

        private static int mixed(int column) {
            int twice = twiceEachByte(column);
            int thrice = column ^ twice;
            return twice
                    ^ ((thrice << 8) | (thrice >>> 24))
                    ^ ((column << 16) | (column >>> 16))
                    ^ ((column << 24) | (column >>> 8));
        }

        private static int mixedTwice(int column) {
            // Worked out, mixing twice makes of a0 the sum 5 a0 + 4 a2, and of the others alike.
            int acrossSum = column ^ ((column << 16) | (column >>> 16));
            return column ^ twiceEachByte(twiceEachByte(acrossSum));
        }

        private static int twiceEachByte(int word) {
            return ((word & 0x7F7F7F7F) << 1) ^ (((word >>> 7) & 0x01010101) * 0x1B);
        }
    }

    /** The bytes that were given out. */
    private static final class Output {
        // Padding can put one block behind the longest message.
        private final int[] row = new int[MOST_BYTES + SIZE];
        private int count = 0;

        void clear() {
            count = 0;
        }

        int count() {
            return count;
        }

        int at(int i) {
            return i >= 0 && i < count ? row[i] : BAD;
        }

        void add(int b) {
            if (count < row.length) {
                row[count] = b;
                count++;
            }
        }

        void addFirst(int[] block, int n) {
            for (int i = 0; i < n; i++) {
                add(block[i]);
            }
        }
    }

    /** What is done with the bytes of a message as they come, and at its end. */
    private abstract static class Mode {
        final BlockCipher cipher;
        final Output output;
        /** What goes from one block to the next: a hidden block, a number or a tweak. */
        final int[] link = new int[SIZE];
        int kind = ECB;
        boolean shows = false;

        Mode(BlockCipher cipher, Output output) {
            this.cipher = cipher;
            this.output = output;
        }

        final void start(int newKind, boolean newShows, int[] firstLink) {
            kind = newKind;
            shows = newShows;
            Rows.copy(firstLink, link);
            forgetRest();
        }

        /** Lets go what an earlier message left of a block that was not whole. */
        abstract void forgetRest();

        abstract void take(int b);

        /** Gives out the rest and answers NO_FAULT, or gives out nothing and answers the fault. */
        abstract int finish();
    }

    /** Modes 6 .. 9: each byte is given out as it comes. */
    private static final class StreamMode extends Mode {
        private final int[] mask = new int[SIZE];
        private int place = 0;

        StreamMode(BlockCipher cipher, Output output) {
            super(cipher, output);
        }

        void forgetRest() {
            place = 0;
        }

        void take(int b) {
            if (place == 0) {
                makeMask();
            }
            int answer = b ^ mask[place];
            output.add(answer);
            int hidden = shows ? b : answer;
            if (kind == CFB_BY_BYTES) {
                System.arraycopy(link, 1, link, 0, SIZE - 1);
                link[SIZE - 1] = hidden;
                return;
            }
            if (kind == CFB) {
                link[place] = hidden;
            }
            place = (place + 1) % SIZE;
        }

        private void makeMask() {
            Rows.copy(link, mask);
            cipher.hide(mask);
            if (kind == COUNTED) {
                countLinkUp();
            } else if (kind == FED_BACK) {
                Rows.copy(mask, link);
            }
        }

        private void countLinkUp() {
            int carry = 1;
            for (int i = SIZE - 1; i >= 0 && carry == 1; i--) {
                link[i] = (link[i] + 1) & 255;
                carry = link[i] == 0 ? 1 : 0;
            }
        }

        int finish() {
            return NO_FAULT;
        }
    }

    /** Modes that give out whole blocks, each when so many bytes as they need stand behind it. */
    private abstract static class BlockMode extends Mode {
        static final int MOST_BEHIND = SIZE + 1;

        final int[] waiting = new int[SIZE + MOST_BEHIND];
        int waits = 0;
        final int[] block = new int[SIZE];
        final int[] other = new int[SIZE];

        BlockMode(BlockCipher cipher, Output output) {
            super(cipher, output);
        }

        void forgetRest() {
            waits = 0;
        }

        /** How many bytes must stand behind a block before it is given out: at most MOST_BEHIND. */
        abstract int neededBehind();

        /** Hides or shows a block in its place, and makes the link for the next one. */
        abstract void step(int[] row);

        void take(int b) {
            waiting[waits] = b;
            waits++;
            if (waits == SIZE + neededBehind()) {
                giveFirstBlock();
            }
        }

        void giveFirstBlock() {
            Rows.copy(waiting, block);
            waits -= SIZE;
            System.arraycopy(waiting, SIZE, waiting, 0, waits);
            step(block);
            output.addFirst(block, SIZE);
        }
    }

    /** Modes 0, 1, 2, and the chain that the stolen ones share with them. */
    private static class ChainedMode extends BlockMode {
        private final int[] nextLink = new int[SIZE];

        ChainedMode(BlockCipher cipher, Output output) {
            super(cipher, output);
        }

        int neededBehind() {
            return kind == PADDED && shows ? 1 : 0;
        }

        final void step(int[] row) {
            if (kind == ECB) {
                cipher.turn(row, shows);
            } else if (shows) {
                Rows.copy(row, nextLink);
                cipher.show(row);
                Rows.xor(row, link);
                Rows.copy(nextLink, link);
            } else {
                Rows.xor(row, link);
                cipher.hide(row);
                Rows.copy(row, link);
            }
        }

        int finish() {
            if (kind != PADDED) {
                return waits == 0 ? NO_FAULT : WRONG_LENGTH;
            }
            if (shows) {
                return giveUnpadded();
            }
            fillWithPadding();
            giveFirstBlock();
            return NO_FAULT;
        }

        private void fillWithPadding() {
            int more = SIZE - waits;
            for (int i = waits; i < SIZE; i++) {
                waiting[i] = more;
            }
            waits = SIZE;
        }

        private int giveUnpadded() {
            if (waits != SIZE) {
                return WRONG_LENGTH;
            }
            Rows.copy(waiting, block);
            step(block);
            int more = block[SIZE - 1];
            if (!endsWithPadding(more)) {
                return WRONG_PADDING;
            }
            output.addFirst(block, SIZE - more);
            return NO_FAULT;
        }

        private boolean endsWithPadding(int more) {
            if (more < 1 || more > SIZE) {
                return false;
            }
            for (int i = SIZE - more; i < SIZE; i++) {
                if (block[i] != more) {
                    return false;
                }
            }
            return true;
        }
    }

    /** Modes 3, 4, 5: the last two blocks wait for the end. */
    private static final class StolenMode extends ChainedMode {
        StolenMode(BlockCipher cipher, Output output) {
            super(cipher, output);
        }

        int neededBehind() {
            return MOST_BEHIND;
        }

        int finish() {
            if (waits < SIZE) {
                return WRONG_LENGTH;
            }
            if (waits == SIZE) {
                giveFirstBlock();
            } else if (shows) {
                giveShownTail(waits - SIZE);
            } else {
                giveHiddenTail(waits - SIZE);
            }
            return NO_FAULT;
        }

        private boolean cutBlockComesFirst(int d) {
            return kind == STOLEN_CUT_FIRST || (kind == STOLEN_SWAPPED_IF_CUT && d == SIZE);
        }

        private void giveHiddenTail(int d) {
            Rows.copy(waiting, block);
            step(block);
            for (int i = 0; i < SIZE; i++) {
                other[i] = i < d ? waiting[SIZE + i] : 0;
            }
            step(other);
            if (cutBlockComesFirst(d)) {
                output.addFirst(block, d);
                output.addFirst(other, SIZE);
            } else {
                output.addFirst(other, SIZE);
                output.addFirst(block, d);
            }
        }

        private void giveShownTail(int d) {
            boolean cutFirst = cutBlockComesFirst(d);
            System.arraycopy(waiting, cutFirst ? d : 0, block, 0, SIZE);
            cipher.show(block);
            // Behind the message were 0s: there the block just shown has what was cut off.
            Rows.copy(block, other);
            System.arraycopy(waiting, cutFirst ? 0 : SIZE, other, 0, d);
            Rows.xor(block, other);
            step(other);
            output.addFirst(other, SIZE);
            output.addFirst(block, d);
        }
    }

    /** Mode 10: the link is the tweak of the first block that waits. */
    private static final class TweakedMode extends BlockMode {
        private final int[] earlierTweak = new int[SIZE];

        TweakedMode(BlockCipher cipher, Output output) {
            super(cipher, output);
        }

        int neededBehind() {
            return MOST_BEHIND;
        }

        void step(int[] row) {
            Rows.xor(row, link);
            cipher.turn(row, shows);
            Rows.xor(row, link);
            doubleTweak(link);
        }

        private static void doubleTweak(int[] tweak) {
            int carry = 0;
            for (int i = 0; i < SIZE; i++) {
                int doubled = (tweak[i] << 1) | carry;
                tweak[i] = doubled & 255;
                carry = doubled >>> 8;
            }
            if (carry == 1) {
                tweak[0] ^= 135;
            }
        }

        int finish() {
            if (waits < SIZE) {
                return WRONG_LENGTH;
            }
            int d = waits % SIZE;
            if (d != 0) {
                giveStolenTail(d);
                return NO_FAULT;
            }
            int blocks = waits / SIZE;
            for (int i = 0; i < blocks; i++) {
                giveFirstBlock();
            }
            return NO_FAULT;
        }

        private void giveStolenTail(int d) {
            Rows.copy(link, earlierTweak);
            // What was hidden last is shown first: so showing takes the last two tweaks in turned order.
            if (shows) {
                doubleTweak(link);
            }
            Rows.copy(waiting, block);
            step(block);
            if (shows) {
                Rows.copy(earlierTweak, link);
            }
            Rows.copy(block, other);
            System.arraycopy(waiting, SIZE, other, 0, d);
            step(other);
            output.addFirst(other, SIZE);
            output.addFirst(block, d);
        }
    }
}
