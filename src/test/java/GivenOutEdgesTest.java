import java.util.Arrays;

/** The boundary cases of GIVEN OUT and of its faults, a method for each part of a sentence. */
public final class GivenOutEdgesTest {
    private static final Checks CHECKS = new Checks();
    private static final int[] TIMES = {1, 15, 16, 17, 31, 32, 33, 47, 48, 49, 63, 64, 65};
    private static final int[] CHAINED = {0, 1};
    private static final int[] STEALING = {3, 4, 5, 10};
    private static final int[] STREAMED = {6, 7, 8, 9};

    public static void main(String[] args) {
        eachWholeBlock();
        eachBlockWithSomethingBehind();
        eachBlockWithMoreThanSixteenBehind();
        allThatCame();
        theRestAtTheEnd();
        noMultipleOfSixteen();
        nothingShownByPadded();
        belowSixteen();
        noFaultThereIs();
        paddingThatHidingPuts();
        paddingOfNone();
        paddingTooLarge();
        paddingOfUnlikeBytes();
        onlyTheLastBlockIsLookedAt();
        nothingMoreWithAFault();
        endedByAFault();
        CHECKS.close("GivenOutEdgesTest");
    }

    /** The counts that are due at TIMES, for messages cut in pieces of each length. */
    private static void dueCounts(int mode, int shows, int... want) {
        for (int piece = 1; piece <= 8; piece++) {
            for (int k = 0; k < TIMES.length; k++) {
                CipherModes x = new CipherModes();
                x.begin(mode, 4, shows);
                int count = Calls.feedAll(x, new byte[TIMES[k]], piece);
                String what = "mode " + mode + ", shows " + shows + ", " + TIMES[k] + " bytes by " + piece;
                CHECKS.due(what, count, want[k]);
                CHECKS.due(what + ", given(count)", x.given(count), CipherModes.BAD);
                CHECKS.due(what + ", given(count - 1)", count == 0 || x.given(count - 1) >= 0, true);
            }
        }
    }

    private static void eachWholeBlock() {
        CHECKS.sentence("for 0, 1, and hiding by 2: 16 for each whole block");
        int[] want = {0, 0, 16, 16, 16, 32, 32, 32, 48, 48, 48, 64, 64};
        dueCounts(0, 0, want);
        dueCounts(0, 1, want);
        dueCounts(1, 0, want);
        dueCounts(1, 1, want);
        dueCounts(2, 0, want);
    }

    private static void eachBlockWithSomethingBehind() {
        CHECKS.sentence("showing by 2: 16 for each whole block with something behind it");
        dueCounts(2, 1, 0, 0, 0, 16, 16, 16, 32, 32, 32, 48, 48, 48, 64);
    }

    private static void eachBlockWithMoreThanSixteenBehind() {
        CHECKS.sentence("3, 4, 5, 10: 16 for each block with more than 16 bytes behind it");
        for (int mode : STEALING) {
            dueCounts(mode, 0, 0, 0, 0, 0, 0, 0, 16, 16, 16, 32, 32, 32, 48);
            dueCounts(mode, 1, 0, 0, 0, 0, 0, 0, 16, 16, 16, 32, 32, 32, 48);
        }
    }

    private static void allThatCame() {
        CHECKS.sentence("6 .. 9: all t");
        for (int mode : STREAMED) {
            dueCounts(mode, 0, TIMES);
            dueCounts(mode, 1, TIMES);
        }
    }

    /** The answer of end() behind t bytes, and that the message is ended. */
    private static void dueEnd(int mode, int shows, int t, int want) {
        CipherModes x = new CipherModes();
        x.begin(mode, 8, shows);
        Calls.feedAll(x, new byte[t], 8);
        String what = "mode " + mode + ", shows " + shows + ", " + t + " bytes";
        CHECKS.due(what + ", end", x.end(), want);
        CHECKS.due(what + ", end again", x.end(), CipherModes.NO);
        if (want >= 0) {
            CHECKS.due(what + ", last byte", want == 0 || x.given(want - 1) >= 0, true);
            CHECKS.due(what + ", behind it", x.given(want), CipherModes.BAD);
        }
    }

    private static void theRestAtTheEnd() {
        CHECKS.sentence("At the END the rest");
        for (int shows = 0; shows <= 1; shows++) {
            for (int t : new int[] {16, 17, 31, 32, 33, 47, 48, 49}) {
                for (int mode : STEALING) {
                    dueEnd(mode, shows, t, t);
                }
                for (int mode : STREAMED) {
                    dueEnd(mode, shows, t, t);
                }
            }
            for (int mode : CHAINED) {
                dueEnd(mode, shows, 16, 16);
                dueEnd(mode, shows, 32, 32);
            }
        }
        int[][] padded = {{0, 16}, {1, 16}, {15, 16}, {16, 32}, {17, 32}, {31, 32}, {32, 48}};
        for (int[] due : padded) {
            dueEnd(2, 0, due[0], due[1]);
        }
    }

    private static void noMultipleOfSixteen() {
        CHECKS.sentence("FAULT 1 when t can't be: no multiple of 16 (0, 1, showing by 2)");
        for (int t : new int[] {1, 8, 15, 17, 31, 33, 47, 49}) {
            for (int mode : CHAINED) {
                dueEnd(mode, 0, t, -101);
                dueEnd(mode, 1, t, -101);
            }
            dueEnd(2, 1, t, -101);
        }
    }

    private static void nothingShownByPadded() {
        CHECKS.sentence("no multiple of 16 (0, 1, showing by 2; also 0 for that)");
        dueEnd(2, 1, 0, -101);
    }

    private static void belowSixteen() {
        CHECKS.sentence("below 16 (3, 4, 5, 10; t = 0 too)");
        for (int mode : STEALING) {
            for (int t : new int[] {0, 1, 8, 14, 15}) {
                dueEnd(mode, 0, t, -101);
                dueEnd(mode, 1, t, -101);
            }
        }
    }

    private static void noFaultThereIs() {
        CHECKS.sentence("FAULT 1 .. 0, 1 [t = 0 is a multiple], 3, 4, 5, 10 [16 is not below], 6 .. 9 and hiding by 2 [not named]");
        for (int shows = 0; shows <= 1; shows++) {
            for (int mode : CHAINED) {
                dueEnd(mode, shows, 0, 0);
            }
            for (int mode : STEALING) {
                dueEnd(mode, shows, 16, 16);
            }
            for (int mode : STREAMED) {
                dueEnd(mode, shows, 0, 0);
                dueEnd(mode, shows, 1, 1);
                dueEnd(mode, shows, 15, 15);
            }
        }
        dueEnd(2, 0, 0, 16);
    }

    /** An object that has come to the end of this message (of whole blocks, with its last bytes) shown by 2. */
    private static CipherModes fedWith(byte[] message) {
        byte[] hidden = new Reference(new byte[64], new byte[16], 4).hide(1, message);
        CipherModes x = new CipherModes();
        x.begin(2, 4, 1);
        CHECKS.due("all but one block", Calls.feedAll(x, hidden, 8), message.length - 16);
        return x;
    }

    private static byte[] filled(int length, int n, int v) {
        byte[] message = new byte[length];
        Arrays.fill(message, (byte) 200);
        Arrays.fill(message, length - n, length, (byte) v);
        return message;
    }

    private static void dueFaultTwo(byte[] message) {
        CipherModes x = fedWith(message);
        CHECKS.due("end of " + Arrays.toString(message), x.end(), -102);
        Calls.dueGiven(CHECKS, "before the fault", x, Arrays.copyOf(message, message.length - 16));
    }

    private static void paddingThatHidingPuts() {
        CHECKS.sentence("2 PADDED: of the message with 1 .. 16 bytes more, each being how many these are");
        for (int length = 16; length <= 32; length += 16) {
            for (int v = 1; v <= 16; v++) {
                CipherModes x = fedWith(filled(length, v, v));
                CHECKS.due(v + " bytes more", x.end(), length - v);
                Calls.dueGiven(CHECKS, v + " bytes more", x, filled(length - v, 0, 0));
            }
        }
    }

    private static void paddingOfNone() {
        CHECKS.sentence("FAULT 2 when the last bytes are none that hiding puts there: 0 is too small");
        for (int n = 1; n <= 16; n++) {
            dueFaultTwo(filled(16, n, 0));
        }
    }

    private static void paddingTooLarge() {
        CHECKS.sentence("FAULT 2 when the last bytes are none that hiding puts there: 17 and more are too large");
        for (int v = 17; v <= 255; v++) {
            dueFaultTwo(filled(16, 16, v));
            dueFaultTwo(filled(32, 1, v));
        }
    }

    private static void paddingOfUnlikeBytes() {
        CHECKS.sentence("FAULT 2 when the last bytes are none that hiding puts there: not all alike");
        for (int v = 2; v <= 16; v++) {
            for (int at = 16 - v; at < 15; at++) {
                byte[] message = filled(16, v, v);
                message[at] = (byte) (v + 1);
                dueFaultTwo(message);
            }
            dueFaultTwo(filled(16, 1, v));
            dueFaultTwo(filled(16, v - 1, v));
        }
    }

    private static void onlyTheLastBlockIsLookedAt() {
        CHECKS.sentence("FAULT 2 when the last bytes are none that hiding puts there: at most 16 are put");
        dueFaultTwo(filled(32, 17, 17));
        dueFaultTwo(filled(32, 32, 32));
        CipherModes x = fedWith(filled(32, 32, 16));
        CHECKS.due("32 of 16", x.end(), 16);
        x = fedWith(filled(32, 16, 1));
        CHECKS.due("16 of 1", x.end(), 31);
    }

    private static void nothingMoreWithAFault() {
        CHECKS.sentence("With a fault nothing more is given");
        for (int mode = 0; mode <= 2; mode++) {
            for (int t : new int[] {1, 17, 33, 47}) {
                CipherModes x = new CipherModes();
                x.begin(mode, 4, 1);
                int count = Calls.feedAll(x, new byte[t], 8);
                byte[] before = Calls.allGiven(x);
                CHECKS.due("given before", before.length, t / 16 * 16);
                CHECKS.due("end", x.end(), -101);
                Calls.dueGiven(CHECKS, "mode " + mode + ", " + t + " bytes", x, before);
                CHECKS.due("one that waited", x.given(count), CipherModes.BAD);
            }
        }
        for (int mode : STEALING) {
            CipherModes x = new CipherModes();
            x.begin(mode, 4, 0);
            Calls.feedAll(x, new byte[15], 8);
            CHECKS.due("end", x.end(), -101);
            CHECKS.due("given(0)", x.given(0), CipherModes.BAD);
        }
    }

    private static void endedByAFault() {
        CHECKS.sentence("(the message is ended by that, too)");
        CipherModes x = new CipherModes();
        x.begin(3, 4, 0);
        CHECKS.due("end", x.end(), -101);
        CHECKS.due("end again", x.end(), CipherModes.NO);
        CHECKS.due("feed", x.feed(0, 8), CipherModes.NO);
        x = fedWith(filled(16, 16, 17));
        CHECKS.due("end", x.end(), -102);
        CHECKS.due("end again", x.end(), CipherModes.NO);
        CHECKS.due("feed", x.feed(0, 8), CipherModes.NO);
        CHECKS.due("begin", x.begin(6, 4, 0), 0);
        CHECKS.due("feed", x.feed(0, 8), 8);
        CHECKS.due("end", x.end(), 8);
    }
}
