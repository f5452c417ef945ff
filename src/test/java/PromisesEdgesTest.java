import java.util.Arrays;

/** The boundary cases that promises 1 to 10 name, a method for each sentence; what is refused has RefusedEdgesTest. */
public final class PromisesEdgesTest {
    private static final Checks CHECKS = new Checks();
    private static final int LEAST = Integer.MIN_VALUE;
    private static final int MOST = Integer.MAX_VALUE;
    private static final int MOST_CALLS = 512;

    public static void main(String[] args) {
        howItIsCut();
        longestMessage();
        mostGivenOut();
        allZeroAtFirst();
        nothingHasBegunAtFirst();
        placesOfKeys();
        keysAreForTheNextBegin();
        placesOfInitial();
        initialIsForTheNextBegin();
        modesThereAre();
        wordsThereAre();
        notSixForTen();
        hiddenOrShown();
        nothingIsGivenOutYet();
        nothingIsLeftOfTheOneBefore();
        pieces();
        lowestBytesComeHighestFirst();
        noFeedBeforeBegin();
        noFeedBehindTheEnd();
        fullAtTheEdge();
        noEndBeforeBegin();
        noEndBehindTheEnd();
        placesOfGiven();
        givenStays();
        initialAsItIsNow();
        noSuchBlock();
        noSuchBox();
        noSuchProduct();
        CHECKS.close("PromisesEdgesTest");
    }

    private static void howItIsCut() {
        CHECKS.sentence("what is given out, and when, does not depend on how they are cut");
        byte[] message = new byte[50];
        new java.util.Random(50).nextBytes(message);
        for (int mode = 0; mode <= 10; mode++) {
            for (int shows = 0; shows <= 1; shows++) {
                // By single bytes, to know what is due at each time.
                CipherModes single = new CipherModes();
                single.begin(mode, 4, shows);
                int[] counts = new int[51];
                for (int t = 1; t <= 50; t++) {
                    counts[t] = Calls.feedPiece(single, message, t - 1, 1);
                }
                int end = single.end();
                byte[] want = Calls.allGiven(single);
                for (int first = 1; first <= 8; first++) {
                    for (int piece = 2; piece <= 8; piece++) {
                        CipherModes x = new CipherModes();
                        x.begin(mode, 4, shows);
                        int t = first;
                        CHECKS.due("first piece", Calls.feedPiece(x, message, 0, first), counts[first]);
                        while (t < 50) {
                            int n = Math.min(piece, 50 - t);
                            int count = Calls.feedPiece(x, message, t, n);
                            t += n;
                            CHECKS.due("mode " + mode + ", " + first + " then by " + piece + ", at " + t, count, counts[t]);
                        }
                        CHECKS.due("end", x.end(), end);
                        Calls.dueGiven(CHECKS, "mode " + mode + " by " + piece, x, want);
                    }
                }
            }
        }
    }

    private static void longestMessage() {
        CHECKS.sentence("An object is used for at most 512 calls after it has been made");
        for (int mode = 0; mode <= 10; mode++) {
            byte[] message = new byte[8 * 500];
            new java.util.Random(mode).nextBytes(message);
            byte[] want = new Reference(new byte[64], new byte[16], 4).hide(mode, message);
            CipherModes x = new CipherModes();
            x.begin(mode, 4, 0);
            Calls.feedAll(x, message, 8);
            CHECKS.due("end, mode " + mode, x.end(), want.length);
            for (int i = 0; i < MOST_CALLS - 502; i++) {
                int place = want.length - 1 - 5 * i;
                CHECKS.due("given(" + place + ")", x.given(place), want[place] & 255);
            }
        }
    }

    private static void mostGivenOut() {
        CHECKS.sentence("2 PADDED .. An object is used for at most 512 calls: begin, 510 of feed and end give out 4096");
        CipherModes x = new CipherModes();
        x.begin(2, 4, 0);
        for (int i = 1; i <= 510; i++) {
            CHECKS.due("feed", x.feed(i, 8), 8 * i / 16 * 16);
        }
        CHECKS.due("end", x.end(), 4096);
    }

    private static void allZeroAtFirst() {
        CHECKS.sentence("Keys and initial block are all 0");
        CipherModes x = new CipherModes();
        CHECKS.due("block(4, 0, 0)", x.block(4, 0, 0), 0x66e94bd4ef8a2c3bL);
        CHECKS.due("block(4, 0, 1)", x.block(4, 0, 1), 0x884cfa59ca342b2eL);
        CHECKS.due("block(8, 0, 0)", x.block(8, 0, 0), 0xdc95c078a2408989L);
        CHECKS.due("block(8, 0, 1)", x.block(8, 0, 1), 0xad48a21492842087L);
        CipherModes set = new CipherModes();
        for (int i = 0; i < 8; i++) {
            set.key(i, 0);
        }
        set.initial(0, 0);
        set.initial(1, 0);
        for (CipherModes each : new CipherModes[] {x, set}) {
            each.begin(10, 8, 0);
            Calls.feedAll(each, new byte[17], 8);
            each.end();
        }
        for (int i = 0; i < 17; i++) {
            CHECKS.due("XTS of a new object, given(" + i + ")", x.given(i), set.given(i));
        }
    }

    private static void nothingHasBegunAtFirst() {
        CHECKS.sentence("nothing has begun");
        CHECKS.due("feed", new CipherModes().feed(0, 1), CipherModes.NO);
        CHECKS.due("end", new CipherModes().end(), CipherModes.NO);
        CHECKS.due("given(0)", new CipherModes().given(0), CipherModes.BAD);
    }

    private static void placesOfKeys() {
        CHECKS.sentence("LONG i (0 .. 7) .. becomes v: true; false when there is none such");
        CipherModes x = new CipherModes();
        for (int i = 0; i <= 7; i++) {
            CHECKS.due("key(" + i + ")", x.key(i, Long.MIN_VALUE + i), true);
        }
        for (int i : new int[] {-1, 8, 9, LEAST, MOST}) {
            CHECKS.due("key(" + i + ")", x.key(i, 1), false);
        }
    }

    private static byte[] counted(CipherModes x) {
        x.begin(6, 4, 0);
        x.feed(0, 8);
        x.feed(0, 8);
        x.end();
        return Calls.allGiven(x);
    }

    private static void keysAreForTheNextBegin() {
        CHECKS.sentence("key: for the next begin()");
        byte[] old = counted(new CipherModes());
        CipherModes x = new CipherModes();
        x.begin(6, 4, 0);
        x.key(0, 1);
        x.feed(0, 8);
        x.feed(0, 8);
        Calls.dueGiven(CHECKS, "set behind begin()", x, old);
        CHECKS.due("refused", x.begin(6, 5, 0), CipherModes.BAD);
        CipherModes y = new CipherModes();
        y.key(0, 1);
        byte[] after = counted(y);
        CHECKS.due("another key, another mask", Arrays.equals(old, after), false);
        CHECKS.due("from the next begin() on", Arrays.equals(counted(x), after), true);
        CHECKS.due("and from the one behind it", Arrays.equals(counted(x), after), true);
    }

    private static void placesOfInitial() {
        CHECKS.sentence("LONG i (0, 1) of the initial block becomes v: true; false");
        CipherModes x = new CipherModes();
        CHECKS.due("initial(0)", x.initial(0, -1), true);
        CHECKS.due("initial(1)", x.initial(1, -1), true);
        for (int i : new int[] {-1, 2, 7, LEAST, MOST}) {
            CHECKS.due("initial(" + i + ")", x.initial(i, 1), false);
        }
    }

    private static void initialIsForTheNextBegin() {
        CHECKS.sentence("initial: for the next begin()");
        byte[] old = counted(new CipherModes());
        CipherModes x = new CipherModes();
        x.begin(6, 4, 0);
        x.initial(1, 1);
        x.feed(0, 8);
        x.feed(0, 8);
        Calls.dueGiven(CHECKS, "set behind begin()", x, old);
        CipherModes y = new CipherModes();
        y.initial(1, 1);
        byte[] after = counted(y);
        CHECKS.due("another block, another mask", Arrays.equals(old, after), false);
        CHECKS.due("from the next begin() on", Arrays.equals(counted(x), after), true);
        CHECKS.due("counting does not change it", Arrays.equals(counted(x), after), true);
    }

    private static void modesThereAre() {
        CHECKS.sentence("mode 0 .. 10 .. BAD for others");
        for (int shows = 0; shows <= 1; shows++) {
            CipherModes x = new CipherModes();
            for (int mode = 0; mode <= 10; mode++) {
                CHECKS.due("begin(" + mode + ", 4, " + shows + ")", x.begin(mode, 4, shows), 0);
            }
            for (int mode : new int[] {-1, 11, 12, LEAST, MOST}) {
                CHECKS.due("begin(" + mode + ", 4, " + shows + ")", x.begin(mode, 4, shows), CipherModes.BAD);
            }
        }
    }

    private static void wordsThereAre() {
        CHECKS.sentence("a key of w = 4, 6, 8 words .. BAD for others");
        CipherModes x = new CipherModes();
        for (int mode = 0; mode <= 9; mode++) {
            for (int words = -1; words <= 17; words++) {
                int want = words == 4 || words == 6 || words == 8 ? 0 : CipherModes.BAD;
                CHECKS.due("begin(" + mode + ", " + words + ", 0)", x.begin(mode, words, 0), want);
            }
            CHECKS.due("begin of least", x.begin(mode, LEAST, 0), CipherModes.BAD);
            CHECKS.due("begin of most", x.begin(mode, MOST, 0), CipherModes.BAD);
        }
    }

    private static void notSixForTen() {
        CHECKS.sentence("(not 6 for 10)");
        CipherModes x = new CipherModes();
        for (int shows = 0; shows <= 1; shows++) {
            CHECKS.due("begin(10, 4)", x.begin(10, 4, shows), 0);
            CHECKS.due("begin(10, 6)", x.begin(10, 6, shows), CipherModes.BAD);
            CHECKS.due("begin(10, 8)", x.begin(10, 8, shows), 0);
            CHECKS.due("begin(9, 6)", x.begin(9, 6, shows), 0);
        }
    }

    private static void hiddenOrShown() {
        CHECKS.sentence("to be hidden (shows = 0) or shown (1) .. BAD for others");
        for (int mode = 0; mode <= 10; mode++) {
            CipherModes x = new CipherModes();
            CHECKS.due("begin", x.begin(mode, 8, 0), 0);
            CHECKS.due("begin", x.begin(mode, 8, 1), 0);
            for (int shows : new int[] {-1, 2, 3, LEAST, MOST}) {
                CHECKS.due("begin(" + mode + ", 8, " + shows + ")", x.begin(mode, 8, shows), CipherModes.BAD);
            }
        }
    }

    private static void nothingIsGivenOutYet() {
        CHECKS.sentence("begin: 0; nothing is given out yet");
        CipherModes x = new CipherModes();
        for (int mode = 0; mode <= 10; mode++) {
            for (int t : new int[] {0, 15, 40}) {
                x.begin(6, 4, 0);
                Calls.feedAll(x, new byte[t], 8);
                CHECKS.due("begin(" + mode + ") behind " + t, x.begin(mode, 4, 0), 0);
                CHECKS.due("given(0)", x.given(0), CipherModes.BAD);
                CHECKS.due("first feed", x.feed(0, 5), mode >= 6 && mode <= 9 ? 5 : 0);
            }
        }
    }

    private static void nothingIsLeftOfTheOneBefore() {
        CHECKS.sentence("A message begins [over one that was not ended]");
        byte[] message = new byte[32];
        new java.util.Random(32).nextBytes(message);
        for (int mode = 0; mode <= 10; mode++) {
            byte[] want = new Reference(new byte[64], new byte[16], 4).hide(mode, message);
            for (int before = 0; before <= 10; before++) {
                CipherModes x = new CipherModes();
                x.begin(before, 8, before % 2);
                Calls.feedAll(x, new byte[21], 8);
                CHECKS.due("begin(" + mode + ") over " + before, x.begin(mode, 4, 0), 0);
                Calls.feedAll(x, message, 8);
                CHECKS.due("end", x.end(), want.length);
                Calls.dueGiven(CHECKS, mode + " over " + before, x, want);
            }
        }
    }

    private static void pieces() {
        CHECKS.sentence("BAD when n is not 1 .. 8");
        CipherModes x = new CipherModes();
        x.begin(7, 4, 0);
        CHECKS.due("feed of 1", x.feed(-1, 1), 1);
        CHECKS.due("feed of 8", x.feed(-1, 8), 9);
        for (int n : new int[] {0, 9, -1, 10, LEAST, MOST}) {
            CHECKS.due("feed of " + n, x.feed(-1, n), CipherModes.BAD);
        }
        CHECKS.due("feed of 7", x.feed(-1, 7), 16);
    }

    private static void lowestBytesComeHighestFirst() {
        CHECKS.sentence("The lowest n bytes of bytes, the highest of them first, come");
        byte[] mask = counted(new CipherModes());
        int[] digits = {0x81, 0x12, 0x23, 0x34, 0x45, 0x56, 0x67, 0xF8};
        for (int n = 1; n <= 8; n++) {
            CipherModes x = new CipherModes();
            x.begin(6, 4, 0);
            x.feed(0x81122334455667F8L, n);
            for (int i = 0; i < n; i++) {
                CHECKS.due(n + " bytes, given(" + i + ")", x.given(i), digits[8 - n + i] ^ (mask[i] & 255));
            }
            CHECKS.due(n + " bytes, no more", x.given(n), CipherModes.BAD);
        }
    }

    private static void noFeedBeforeBegin() {
        CHECKS.sentence("feed: NO when nothing has begun");
        CipherModes x = new CipherModes();
        CHECKS.due("feed", x.feed(0, 1), CipherModes.NO);
        x.begin(11, 4, 0);
        CHECKS.due("feed behind a refused begin()", x.feed(0, 8), CipherModes.NO);
        x.begin(10, 4, 0);
        CHECKS.due("feed behind begin()", x.feed(0, 8), 0);
    }

    private static void noFeedBehindTheEnd() {
        CHECKS.sentence("feed: NO when .. it was ended");
        for (int mode = 0; mode <= 10; mode++) {
            for (int shows = 0; shows <= 1; shows++) {
                for (int t : new int[] {0, 3, 16}) {
                    CipherModes x = new CipherModes();
                    x.begin(mode, 4, shows);
                    Calls.feedAll(x, new byte[t], 8);
                    x.end();
                    CHECKS.due("feed behind " + t + ", mode " + mode, x.feed(0, 1), CipherModes.NO);
                    x.begin(mode, 6, 2);
                    CHECKS.due("and behind a refused begin()", x.feed(0, 8), CipherModes.NO);
                }
            }
        }
    }

    /** Behind the 512th call, so nothing promises it; but this is what the sentence says. */
    private static void fullAtTheEdge() {
        CHECKS.sentence("FULL when more than 4096 bytes would have come");
        for (int mode = 0; mode <= 10; mode++) {
            for (int n = 1; n <= 8; n++) {
                CipherModes x = new CipherModes();
                x.begin(mode, 4, 0);
                Calls.feedAll(x, new byte[4096 - n], 8);
                for (int more = n + 1; more <= 8; more++) {
                    CHECKS.due(n + " missing, feed of " + more, x.feed(0, more), CipherModes.FULL);
                }
                CHECKS.due("just full", x.feed(0, n), Reference.dueCount(mode, 0, 4096));
                CHECKS.due("one over", x.feed(0, 1), CipherModes.FULL);
                CHECKS.due("eight over", x.feed(0, 8), CipherModes.FULL);
                CHECKS.due("end", x.end(), mode == 2 ? 4112 : 4096);
                CHECKS.due("last byte", x.given(mode == 2 ? 4111 : 4095) >= 0, true);
                CHECKS.due("behind it", x.given(mode == 2 ? 4112 : 4096), CipherModes.BAD);
                x.begin(mode, 4, 0);
                CHECKS.due("room again", x.feed(0, 8), Reference.dueCount(mode, 0, 8));
            }
        }
    }

    private static void noEndBeforeBegin() {
        CHECKS.sentence("end: NO as for feed() [nothing has begun]");
        CipherModes x = new CipherModes();
        CHECKS.due("end", x.end(), CipherModes.NO);
        x.begin(0, 6, 7);
        CHECKS.due("end behind a refused begin()", x.end(), CipherModes.NO);
        x.begin(0, 6, 1);
        CHECKS.due("end behind begin()", x.end(), 0);
    }

    private static void noEndBehindTheEnd() {
        CHECKS.sentence("end: NO as for feed() [it was ended]");
        for (int mode = 0; mode <= 10; mode++) {
            for (int shows = 0; shows <= 1; shows++) {
                for (int t : new int[] {0, 3, 16}) {
                    CipherModes x = new CipherModes();
                    x.begin(mode, 4, shows);
                    Calls.feedAll(x, new byte[t], 8);
                    x.end();
                    CHECKS.due("end again behind " + t + ", mode " + mode, x.end(), CipherModes.NO);
                    CHECKS.due("and again", x.end(), CipherModes.NO);
                    x.begin(6, 4, 0);
                    CHECKS.due("end of the next one", x.end(), 0);
                }
            }
        }
    }

    private static void placesOfGiven() {
        CHECKS.sentence("Byte i that was given out; BAD when there is none");
        CipherModes x = new CipherModes();
        x.begin(1, 4, 0);
        Calls.feedAll(x, new byte[31], 8);
        CHECKS.due("given(0)", x.given(0), 0x66);
        CHECKS.due("given(15)", x.given(15), 0x2e);
        for (int i : new int[] {-1, 16, 17, 30, 31, 32, 4095, 4096, LEAST, MOST}) {
            CHECKS.due("given(" + i + ")", x.given(i), CipherModes.BAD);
        }
    }

    private static void givenStays() {
        CHECKS.sentence("(They stay till the next begin().)");
        for (int t : new int[] {16, 17}) {
            CipherModes x = new CipherModes();
            x.begin(0, 4, 0);
            Calls.feedAll(x, new byte[t], 8);
            byte[] want = Calls.hex("66e94bd4ef8a2c3b884cfa59ca342b2e");
            CHECKS.due("end", x.end(), t == 16 ? 16 : -101);
            Calls.dueGiven(CHECKS, "behind the end", x, want);
            x.end();
            x.feed(0, 8);
            x.key(0, 1);
            x.initial(0, 1);
            x.block(8, 0, 0);
            x.begin(11, 4, 0);
            Calls.dueGiven(CHECKS, "behind other calls", x, want);
            x.begin(0, 4, 0);
            CHECKS.due("behind the next begin()", x.given(0), CipherModes.BAD);
            CHECKS.due("behind the next begin()", x.given(15), CipherModes.BAD);
        }
    }

    private static void initialAsItIsNow() {
        CHECKS.sentence("The initial block, as it is now");
        for (int mode = 0; mode <= 10; mode++) {
            for (int shows = 0; shows <= 1; shows++) {
                CipherModes x = new CipherModes();
                x.initial(1, 5);
                long before = x.block(6, 0, 1);
                x.begin(mode, 4, shows);
                Calls.feedAll(x, new byte[40], 8);
                CHECKS.due("a message does not change it", x.block(6, 0, 1), before);
                x.end();
                CHECKS.due("nor its end", x.block(6, 0, 1), before);
                x.begin(mode, 4, shows);
                x.initial(1, 0);
                CHECKS.due("set under way", x.block(4, 0, 0), 0x66e94bd4ef8a2c3bL);
                CHECKS.due("set under way", x.block(4, 0, 1), 0x884cfa59ca342b2eL);
            }
        }
    }

    private static void noSuchBlock() {
        CHECKS.sentence("LONG i of it. 0 for others");
        CipherModes x = new CipherModes();
        for (int words = 4; words <= 8; words += 2) {
            for (int shows = 0; shows <= 1; shows++) {
                CHECKS.due("block", x.block(words, shows, 0) != 0 && x.block(words, shows, 1) != 0, true);
                for (int i : new int[] {-1, 2, 3, LEAST, MOST}) {
                    CHECKS.due("block(" + words + ", " + shows + ", " + i + ")", x.block(words, shows, i), 0L);
                }
            }
            for (int shows : new int[] {-1, 2, LEAST, MOST}) {
                CHECKS.due("block(" + words + ", " + shows + ", 0)", x.block(words, shows, 0), 0L);
            }
        }
        for (int words : new int[] {-4, 0, 1, 2, 3, 5, 7, 9, 10, 12, 16, LEAST, MOST}) {
            CHECKS.due("block(" + words + ", 0, 0)", x.block(words, 0, 0), 0L);
            CHECKS.due("block(" + words + ", 1, 1)", x.block(words, 1, 1), 0L);
        }
    }

    private static void noSuchBox() {
        CHECKS.sentence("BAD when it is no byte, or back is not 0 or 1");
        CipherModes x = new CipherModes();
        int[][] edges = {{0, 0, 99}, {255, 0, 22}, {0, 1, 82}, {255, 1, 125}};
        for (int[] due : edges) {
            CHECKS.due("box(" + due[0] + ", " + due[1] + ")", x.box(due[0], due[1]), due[2]);
        }
        for (int wrong : new int[] {-1, 256, -256, LEAST, MOST}) {
            CHECKS.due("box(" + wrong + ", 0)", x.box(wrong, 0), CipherModes.BAD);
            CHECKS.due("box(" + wrong + ", 1)", x.box(wrong, 1), CipherModes.BAD);
        }
        for (int back : new int[] {-1, 2, LEAST, MOST}) {
            CHECKS.due("box(0, " + back + ")", x.box(0, back), CipherModes.BAD);
            CHECKS.due("box(255, " + back + ")", x.box(255, back), CipherModes.BAD);
            CHECKS.due("box(256, " + back + ")", x.box(256, back), CipherModes.BAD);
        }
    }

    private static void noSuchProduct() {
        CHECKS.sentence("The PRODUCT of two bytes; BAD when one is none");
        CipherModes x = new CipherModes();
        CHECKS.due("product(0, 255)", x.product(0, 255), 0);
        CHECKS.due("product(255, 255)", x.product(255, 255), 19);
        for (int wrong : new int[] {-1, 256, -256, LEAST, MOST}) {
            for (int fine : new int[] {0, 1, 255}) {
                CHECKS.due("product(" + wrong + ", " + fine + ")", x.product(wrong, fine), CipherModes.BAD);
                CHECKS.due("product(" + fine + ", " + wrong + ")", x.product(fine, wrong), CipherModes.BAD);
            }
            CHECKS.due("product of two", x.product(wrong, wrong), CipherModes.BAD);
        }
    }
}
