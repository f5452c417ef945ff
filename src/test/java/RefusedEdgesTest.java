import java.util.ArrayList;
import java.util.List;

/**
 * "What is refused (BAD, NO, FULL, false) changes nothing": two objects with the same calls behind them, of which
 * one is refused something, answer alike from there on.
 */
public final class RefusedEdgesTest {
    private static final Checks CHECKS = new Checks();
    private static final int LEAST = Integer.MIN_VALUE;
    private static final int MOST = Integer.MAX_VALUE;

    private interface Call {
        long on(CipherModes x);
    }

    private record Refusal(String name, Call call, long due) {
    }

    /** Calls that bring a new object to where something is refused. */
    private record Place(String name, int[] how, int t, boolean ended) {
        CipherModes object() {
            CipherModes x = new CipherModes();
            for (int i = 0; i < 8; i++) {
                x.key(i, 0x0123456789ABCDEFL * (i + 1));
            }
            x.initial(0, 0xFEDCBA9876543210L);
            x.initial(1, 0x1122334455667788L);
            if (how.length == 3) {
                x.begin(how[0], how[1], how[2]);
                Calls.feedAll(x, new byte[t], 8);
                if (ended) {
                    x.end();
                }
            }
            return x;
        }

        boolean open() {
            return how.length == 3 && !ended;
        }
    }

    public static void main(String[] args) {
        List<Place> places = places();
        falseChangesNothing(places);
        badBeginChangesNothing(places);
        badFeedChangesNothing(places);
        badGivenChangesNothing(places);
        badBoxAndProductChangeNothing(places);
        noBlockChangesNothing(places);
        noChangesNothing(places);
        fullChangesNothing();
        CHECKS.close("RefusedEdgesTest");
    }

    private static List<Place> places() {
        List<Place> all = new ArrayList<>();
        all.add(new Place("nothing has begun", new int[0], 0, false));
        for (int mode = 0; mode <= 10; mode++) {
            for (int shows = 0; shows <= 1; shows++) {
                for (int t : new int[] {0, 5, 16, 17, 33}) {
                    String name = "mode " + mode + ", shows " + shows + ", " + t + " bytes";
                    all.add(new Place(name, new int[] {mode, 4, shows}, t, false));
                    all.add(new Place(name + ", ended", new int[] {mode, 4, shows}, t, true));
                }
            }
        }
        return all;
    }

    private static void atAll(List<Place> places, List<Refusal> refusals) {
        for (Place place : places) {
            CipherModes x = place.object();
            CipherModes y = place.object();
            for (Refusal refusal : refusals) {
                CHECKS.due(place.name() + ", " + refusal.name(), refusal.call().on(x), refusal.due());
            }
            dueAlike(place.name(), x, y);
        }
    }

    /** What both answer: what is given out, how it goes on, what is given at the end, and what the next message is. */
    private static void dueAlike(String what, CipherModes x, CipherModes y) {
        dueAlikeGiven(what + ", given so far", x, y);
        dueAlikeBlocks(what, x, y);
        for (int n : new int[] {8, 3, 8, 8, 8}) {
            CHECKS.due(what + ", feed", x.feed(0x1020304050607080L, n), y.feed(0x1020304050607080L, n));
        }
        CHECKS.due(what + ", end", x.end(), y.end());
        CHECKS.due(what + ", end again", x.end(), y.end());
        dueAlikeGiven(what + ", given at the end", x, y);
        // All keys and the initial block count here.
        CHECKS.due(what + ", begin", x.begin(10, 8, 0), y.begin(10, 8, 0));
        for (int i = 0; i < 3; i++) {
            CHECKS.due(what + ", feed", x.feed(i, 8), y.feed(i, 8));
        }
        CHECKS.due(what + ", end", x.end(), y.end());
        dueAlikeGiven(what + ", next message", x, y);
    }

    private static void dueAlikeGiven(String what, CipherModes x, CipherModes y) {
        for (int i = 0; i < 80; i++) {
            CHECKS.due(what + ", given(" + i + ")", x.given(i), y.given(i));
        }
    }

    private static void dueAlikeBlocks(String what, CipherModes x, CipherModes y) {
        for (int words = 4; words <= 8; words += 2) {
            CHECKS.due(what + ", block", x.block(words, 0, 0), y.block(words, 0, 0));
            CHECKS.due(what + ", block", x.block(words, 1, 1), y.block(words, 1, 1));
        }
    }

    private static void falseChangesNothing(List<Place> places) {
        CHECKS.sentence("What is refused (false) changes nothing");
        List<Refusal> refusals = new ArrayList<>();
        for (int i : new int[] {-1, 8, 9, LEAST, MOST}) {
            refusals.add(new Refusal("key(" + i + ")", x -> x.key(i, -1) ? 1 : 0, 0));
        }
        for (int i : new int[] {-1, 2, 3, LEAST, MOST}) {
            refusals.add(new Refusal("initial(" + i + ")", x -> x.initial(i, -1) ? 1 : 0, 0));
        }
        atAll(places, refusals);
    }

    private static void badBeginChangesNothing(List<Place> places) {
        CHECKS.sentence("BAD for others (what was begun goes on)");
        int[][] wrong = {{-1, 4, 0}, {11, 4, 0}, {LEAST, 4, 0}, {MOST, 4, 0}, {6, 3, 0}, {6, 5, 0}, {6, 7, 0}, {6, 9, 0},
            {6, 0, 0}, {6, -4, 0}, {6, LEAST, 0}, {6, MOST, 0}, {10, 6, 0}, {10, 6, 1}, {6, 4, -1}, {6, 4, 2},
            {6, 4, LEAST}, {6, 4, MOST}};
        List<Refusal> refusals = new ArrayList<>();
        for (int[] w : wrong) {
            String name = "begin" + java.util.Arrays.toString(w);
            refusals.add(new Refusal(name, x -> x.begin(w[0], w[1], w[2]), CipherModes.BAD));
        }
        atAll(places, refusals);
    }

    private static void badFeedChangesNothing(List<Place> places) {
        CHECKS.sentence("feed: BAD when n is not 1 .. 8 .. changes nothing");
        List<Refusal> refusals = new ArrayList<>();
        for (int n : new int[] {0, 9, -1, -8, 16, LEAST, MOST}) {
            refusals.add(new Refusal("feed of " + n, x -> x.feed(-1, n), CipherModes.BAD));
        }
        atAll(places, refusals);
    }

    private static void badGivenChangesNothing(List<Place> places) {
        CHECKS.sentence("given: BAD when there is none .. changes nothing");
        List<Refusal> refusals = new ArrayList<>();
        for (int i : new int[] {-1, 49, 4095, 4096, 4111, 4112, LEAST, MOST}) {
            refusals.add(new Refusal("given(" + i + ")", x -> x.given(i), CipherModes.BAD));
        }
        atAll(places, refusals);
    }

    private static void badBoxAndProductChangeNothing(List<Place> places) {
        CHECKS.sentence("box, product: BAD .. changes nothing");
        List<Refusal> refusals = new ArrayList<>();
        for (int a : new int[] {-1, 256, LEAST, MOST}) {
            refusals.add(new Refusal("box(" + a + ", 0)", x -> x.box(a, 0), CipherModes.BAD));
            refusals.add(new Refusal("box(" + a + ", 1)", x -> x.box(a, 1), CipherModes.BAD));
            refusals.add(new Refusal("product(" + a + ", 1)", x -> x.product(a, 1), CipherModes.BAD));
            refusals.add(new Refusal("product(1, " + a + ")", x -> x.product(1, a), CipherModes.BAD));
        }
        refusals.add(new Refusal("box(0, 2)", x -> x.box(0, 2), CipherModes.BAD));
        refusals.add(new Refusal("box(0, -1)", x -> x.box(0, -1), CipherModes.BAD));
        atAll(places, refusals);
    }

    private static void noBlockChangesNothing(List<Place> places) {
        CHECKS.sentence("block: 0 for others");
        int[][] wrong = {{3, 0, 0}, {5, 0, 0}, {7, 0, 0}, {9, 0, 0}, {0, 0, 0}, {LEAST, 0, 0}, {MOST, 0, 0}, {4, -1, 0},
            {4, 2, 0}, {4, LEAST, 0}, {4, MOST, 0}, {4, 0, -1}, {4, 0, 2}, {8, 1, LEAST}, {8, 1, MOST}};
        List<Refusal> refusals = new ArrayList<>();
        for (int[] w : wrong) {
            String name = "block" + java.util.Arrays.toString(w);
            refusals.add(new Refusal(name, x -> x.block(w[0], w[1], w[2]), 0));
        }
        atAll(places, refusals);
    }

    private static void noChangesNothing(List<Place> places) {
        CHECKS.sentence("NO when nothing has begun, or it was ended .. changes nothing");
        List<Refusal> refusals = new ArrayList<>();
        for (int n = 1; n <= 8; n++) {
            int piece = n;
            refusals.add(new Refusal("feed of " + n, x -> x.feed(-1, piece), CipherModes.NO));
        }
        refusals.add(new Refusal("end", CipherModes::end, CipherModes.NO));
        atAll(places.stream().filter(place -> !place.open()).toList(), refusals);
    }

    /** Nothing promises these answers (they come behind the 512th call), but this is what the sentence says. */
    private static void fullChangesNothing() {
        CHECKS.sentence("FULL when more than 4096 bytes would have come .. changes nothing");
        for (int mode = 0; mode <= 10; mode++) {
            for (int shows = 0; shows <= 1; shows++) {
                for (int missing = 0; missing <= 7; missing++) {
                    Place place = new Place("mode " + mode, new int[] {mode, 8, shows}, 4096 - missing, false);
                    CipherModes x = place.object();
                    CipherModes y = place.object();
                    for (int n = missing + 1; n <= 8; n++) {
                        CHECKS.due(missing + " missing, feed of " + n, x.feed(-1, n), CipherModes.FULL);
                    }
                    if (missing > 0) {
                        CHECKS.due("up to the edge", x.feed(77, missing), y.feed(77, missing));
                    }
                    CHECKS.due("end", x.end(), y.end());
                    for (int i = 4000; i <= 4112; i++) {
                        CHECKS.due("given(" + i + ")", x.given(i), y.given(i));
                    }
                    CHECKS.due("full, but ended", x.feed(0, 1), CipherModes.NO);
                }
            }
        }
    }
}
