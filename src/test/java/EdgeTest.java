import java.math.BigInteger;
import java.util.Arrays;
import java.util.NoSuchElementException;

/** For each sentence of the document that names a boundary case a test of its own, in the document's order. */
public final class EdgeTest {
    private static final int MOST_CALLS = 512;
    private static final int MOST_TOLD = 5;
    private static final Object NO_SUCH = NoSuchElementException.class;
    private static final Object STATE = IllegalStateException.class;
    private static final Object ARGUMENT = IllegalArgumentException.class;

    /** The calls that take places, each with how many; order takes a number that has the same bounds. */
    private static final String[] WITH_PLACES = {
        "way", "drop", "reaches", "far", "group", "order", "level", "paths", "gate", "all"};
    private static final int[] PLACES_TAKEN = {2, 2, 2, 2, 1, 1, 1, 2, 2, 3};

    private static String sentence = "";
    private static int sentences = 0;
    private static int checks = 0;
    private static int wrong = 0;
    private static int toldOfSentence = 0;

    private static void check(String sentenceOfTheDocument, Runnable test) {
        sentence = sentenceOfTheDocument;
        sentences++;
        toldOfSentence = 0;
        int before = checks;
        test.run();
        if (checks == before) {
            miss("nothing was checked");
        }
    }

    private static void miss(String what) {
        wrong++;
        toldOfSentence++;
        if (toldOfSentence <= MOST_TOLD) {
            System.out.println("\"" + sentence + "\": " + what);
        }
    }

    private static void same(String what, Object want, Object got) {
        checks++;
        if (!want.equals(got)) {
            miss(what + " answered " + got + ", due is " + want);
        }
    }

    /** One object, which no test asks more often than the document allows. */
    private static final class Probe {
        private final OrderBench x = new OrderBench();
        private int calls = 0;

        Object ask(String call, int... at) {
            calls++;
            if (calls > MOST_CALLS) {
                throw new AssertionError("this test asks one object too often: " + sentence);
            }
            try {
                return answer(call, at);
            } catch (RuntimeException e) {
                return e.getClass();
            }
        }

        private Object answer(String call, int[] at) {
            switch (call) {
                case "places": return x.places(at[0]);
                case "way": return x.way(at[0], at[1]);
                case "drop": return x.drop(at[0], at[1]);
                case "reaches": return x.reaches(at[0], at[1]);
                case "far": return x.far(at[0], at[1]);
                case "circle": return x.circle();
                case "group": return x.group(at[0]);
                case "groups": return x.groups();
                case "order": return x.order(at[0]);
                case "level": return x.level(at[0]);
                case "paths": return x.paths(at[0], at[1]);
                case "gate": return x.gate(at[0], at[1]);
                case "all": return x.all(at[0], at[1], at[2]);
                case "count": return x.count(at[0]);
                default: throw new AssertionError(call);
            }
        }

        void due(Object want, String call, int... at) {
            same("call " + (calls + 1) + ", " + call + Arrays.toString(at), want, ask(call, at));
        }

        /** Ways are written as pairs: from, to, from, to. */
        Probe ways(int... ends) {
            for (int k = 0; k + 1 < ends.length; k += 2) {
                ask("way", ends[k], ends[k + 1]);
            }
            return this;
        }

        void askUpTo(int last, String call, int... at) {
            while (calls < last) {
                ask(call, at);
            }
        }
    }

    private static Probe bench(int n, int... ends) {
        Probe x = new Probe();
        x.ask("places", n);
        return x.ways(ends);
    }

    /** The pairs of the ways 0 to 1, 1 to 2 and so on over n places; back from the last to 0 if it is a ring. */
    private static int[] line(int n, boolean ring) {
        int[] ends = new int[2 * (ring ? n : n - 1)];
        for (int k = 0; k < ends.length; k += 2) {
            ends[k] = k / 2;
            ends[k + 1] = (k / 2 + 1) % n;
        }
        return ends;
    }

    /**
     * What an object must still be behind a call that was refused: N, and each way there or not. A drop tells it
     * of a way exactly, but a great bench has more pairs than an object may have calls, so a new object is made,
     * and the call refused again, for each slice of the pairs.
     */
    private static void refused(Object refusal, int n, int[] ends, String call, int... at) {
        int slice = MOST_CALLS - 40 - ends.length / 2;
        for (int from = 0; from < n * n; from += slice) {
            Probe x = bench(n, ends);
            x.due(refusal, call, at);
            if (from == 0) {
                answersAsBefore(x, n, ends);
            }
            x.due(n, "count", 0);
            for (int pair = from; pair < Math.min(n * n, from + slice); pair++) {
                x.due(isAmong(ends, pair / n, pair % n), "drop", pair / n, pair % n);
            }
        }
    }

    private static boolean isAmong(int[] ends, int a, int b) {
        for (int k = 0; k < ends.length; k += 2) {
            if (ends[k] == a && ends[k + 1] == b) {
                return true;
            }
        }
        return false;
    }

    /** Each call answers as on an object to which the refused call never came. */
    private static void answersAsBefore(Probe x, int n, int[] ends) {
        Probe twin = bench(n, ends);
        int end = n - 1;
        for (int what = 0; what < 4; what++) {
            x.due(twin.ask("count", what), "count", what);
        }
        x.due(twin.ask("circle"), "circle");
        x.due(twin.ask("groups"), "groups");
        for (int k = 0; k < WITH_PLACES.length; k++) {
            if (!WITH_PLACES[k].equals("way") && !WITH_PLACES[k].equals("drop")) {
                int[] at = PLACES_TAKEN[k] == 1 ? new int[] {end} : new int[] {0, end, end / 2};
                x.due(twin.ask(WITH_PLACES[k], at), WITH_PLACES[k], at);
            }
        }
    }

    // Terms

    private static void placesFromZeroToBelowN() {
        for (int n : new int[] {1, 2, 9, 63, 64, 65, 119, 120}) {
            for (int k = 0; k < WITH_PLACES.length; k++) {
                Probe x = bench(n);
                for (int p : new int[] {0, n / 2, n - 1}) {
                    int[] at = filled(PLACES_TAKEN[k], p);
                    boolean taken = !NO_SUCH.equals(x.ask(WITH_PLACES[k], at));
                    same("place " + p + " of " + n + " in " + WITH_PLACES[k], true, taken);
                }
                x.due(NO_SUCH, WITH_PLACES[k], filled(PLACES_TAKEN[k], n));
                x.due(NO_SUCH, WITH_PLACES[k], filled(PLACES_TAKEN[k], -1));
            }
        }
    }

    private static int[] filled(int length, int p) {
        int[] row = new int[length];
        Arrays.fill(row, p);
        return row;
    }

    private static void sizesFromOneTo120() {
        Probe x = new Probe();
        int before = 10;
        for (int n = 1; n <= 120; n++) {
            x.due(before, "places", n);
            x.due(n, "count", 0);
            before = n;
        }
        x.due(ARGUMENT, "places", 0);
        x.due(ARGUMENT, "places", 121);
        x.due(120, "count", 0);
    }

    private static void tenAtFirst() {
        Probe x = new Probe();
        x.due(10, "count", 0);
        x.due(NO_SUCH, "way", 10, 0);
        x.due(NO_SUCH, "way", 0, 10);
        x.due(NO_SUCH, "order", 10);
        x.due(9, "order", 9);
        x.due(false, "way", 9, 0);
        x.due(10, "places", 3);
    }

    private static void waysToItself() {
        Probe x = bench(120);
        for (int p = 0; p < 120; p++) {
            x.due(false, "way", p, p);
        }
        x.due(120, "count", 1);
        for (int p = 0; p < 120; p++) {
            x.due(true, "way", p, p);
        }
        x.due(120, "count", 3);
        for (int p = 0; p < 120; p++) {
            x.due(true, "drop", p, p);
        }
        x.due(0, "count", 1);
        x.due(-1, "circle");
    }

    private static void thereOrNot() {
        Probe x = bench(4);
        x.due(false, "way", 1, 2);
        x.due(true, "way", 1, 2);
        x.due(true, "way", 1, 2);
        x.due(1, "count", 1);
        x.due(1, "paths", 1, 2);
        x.due(false, "way", 2, 1);
        x.due(true, "drop", 2, 1);
        x.due(true, "drop", 1, 2);
        x.due(false, "drop", 1, 2);
        x.due(0, "count", 1);
        x.due(false, "reaches", 1, 2);
        x.due(false, "way", 1, 2);
    }

    private static void noWaysAtFirst() {
        Probe x = new Probe();
        x.due(0, "count", 1);
        for (int pair = 0; pair < 100; pair++) {
            x.due(false, "drop", pair / 10, pair % 10);
            x.due(pair / 10 == pair % 10, "reaches", pair / 10, pair % 10);
        }
        Probe y = new Probe();
        for (int pair = 0; pair < 100; pair++) {
            y.due(false, "way", pair / 10, pair % 10);
        }
        y.due(100, "count", 1);
        new Probe().due(0, "count", 1);
    }

    private static void pathOfOnePlace() {
        for (int[] ends : new int[][] {{}, {1, 2, 2, 3, 0, 2}}) {
            Probe x = bench(4, ends);
            for (int p = 0; p < 4; p++) {
                x.due(true, "reaches", p, p);
                x.due(0, "far", p, p);
                x.due(p, "group", p);
                x.due(1, "paths", p, p);
                x.due(true, "all", p, p, p);
                x.due(false, "all", p, p, (p + 1) % 4);
                x.due(-1, "gate", p, p);
            }
            x.due(0, "level", 0);
        }
    }

    private static void circlesAndNone() {
        Probe none = bench(6, 0, 1, 0, 2, 1, 3, 2, 3, 3, 4, 0, 4);
        none.due(-1, "circle");
        none.due(0, "count", 3);
        none.due(0, "order", 0);
        Probe between = bench(9, 1, 2, 2, 1, 2, 4, 4, 5, 5, 7, 7, 5, 7, 8, 0, 1);
        between.due(1, "circle");
        between.due(4, "count", 3);
        between.due(STATE, "order", 0);
        Probe eight = bench(5, 2, 0, 0, 2, 2, 4, 4, 2);
        eight.due(0, "circle");
        eight.due(3, "count", 3);
    }

    private static void wayToItselfIsACircle() {
        for (int p : new int[] {0, 1, 63, 64, 119}) {
            Probe x = bench(120, p, p);
            x.due(p, "circle");
            x.due(1, "count", 3);
            x.due(STATE, "order", 0);
            x.due(STATE, "level", (p + 1) % 120);
            x.due(STATE, "paths", 0, 119);
            x.due(120, "groups");
            x.due(true, "drop", p, p);
            x.due(-1, "circle");
            x.due(0, "count", 3);
            x.due(0, "order", 0);
        }
    }

    private static final int[][] WAYS_OF_TEN = {
        {}, {0, 1, 1, 2, 2, 9, 0, 9, 4, 3}, {0, 1, 1, 0, 5, 5, 9, 8, 8, 7, 7, 9, 3, 0}, line(10, true)};

    private static void noSuchPlaceChangesNothing() {
        int[] none = {-1, 10, 11, 63, 64, 119, 120, 127, 128, 137, 255, 256, 265, -64, -128, -256, 65536, -65536,
            Integer.MIN_VALUE, Integer.MAX_VALUE};
        for (int[] ends : WAYS_OF_TEN) {
            for (int p : none) {
                noSuchInAnyStead(10, ends, p);
            }
        }
        for (int p : new int[] {-1, 1, 2, 10, 120}) {
            noSuchInAnyStead(1, new int[] {}, p);
            noSuchInAnyStead(1, new int[] {0, 0}, p);
        }
        noSuchInAnyStead(120, line(120, false), 120);
        noSuchInAnyStead(120, line(120, true), -1);
    }

    private static void noSuchInAnyStead(int n, int[] ends, int p) {
        for (int k = 0; k < WITH_PLACES.length; k++) {
            for (int stead = 0; stead < PLACES_TAKEN[k]; stead++) {
                int[] at = filled(PLACES_TAKEN[k], n - 1);
                at[stead] = p;
                refused(NO_SUCH, n, ends, WITH_PLACES[k], at);
            }
            refused(NO_SUCH, n, ends, WITH_PLACES[k], filled(PLACES_TAKEN[k], p));
        }
    }

    /** A place of the old N is none of the new one. */
    private static void noSuchPlaceBehindPlaces() {
        Probe x = bench(120, 119, 118, 5, 6);
        x.ask("places", 6);
        x.due(NO_SUCH, "drop", 119, 118);
        x.due(NO_SUCH, "reaches", 5, 6);
        x.due(NO_SUCH, "way", 6, 5);
        x.due(false, "way", 5, 5);
        x.ask("places", 7);
        x.due(false, "way", 6, 5);
        x.due(1, "count", 1);
    }

    private static final int[][] CIRCLES_OF_FIVE = {
        {0, 0}, {4, 4}, {1, 3, 3, 1}, {4, 0, 0, 4, 1, 2}, line(5, true), {0, 1, 1, 2, 2, 2, 3, 4}};

    private static void noSuchBeforeIllegalState() {
        for (int[] ends : CIRCLES_OF_FIVE) {
            Probe x = bench(5, ends);
            for (int p : new int[] {-1, 5, 119, 120, Integer.MIN_VALUE, Integer.MAX_VALUE}) {
                x.due(NO_SUCH, "order", p);
                x.due(NO_SUCH, "level", p);
                x.due(NO_SUCH, "paths", p, 0);
                x.due(NO_SUCH, "paths", 4, p);
                x.due(NO_SUCH, "paths", p, p);
            }
        }
    }

    private static void illegalStateChangesNothing() {
        for (int[] ends : CIRCLES_OF_FIVE) {
            for (int p = 0; p < 5; p++) {
                refused(STATE, 5, ends, "order", p);
                refused(STATE, 5, ends, "level", p);
                for (int q = 0; q < 5; q++) {
                    refused(STATE, 5, ends, "paths", p, q);
                }
            }
        }
        refused(STATE, 1, new int[] {0, 0}, "order", 0);
        refused(STATE, 1, new int[] {0, 0}, "level", 0);
        refused(STATE, 1, new int[] {0, 0}, "paths", 0, 0);
        refused(STATE, 120, line(120, true), "order", 119);
        refused(STATE, 120, line(120, true), "level", 119);
        refused(STATE, 120, line(120, true), "paths", 0, 119);
    }

    private static void onlyThreeCallsMindACircle() {
        Probe x = bench(5, line(5, true));
        x.due(true, "way", 0, 1);
        x.due(false, "drop", 1, 0);
        x.due(true, "reaches", 1, 0);
        x.due(4, "far", 1, 0);
        x.due(0, "circle");
        x.due(0, "group", 4);
        x.due(1, "groups");
        x.due(4, "gate", 1, 0);
        x.due(true, "all", 1, 0, 3);
        x.due(5, "count", 3);
        x.due(5, "places", 5);
    }

    // What it is

    private static void the512thCall() {
        int[] descent = new int[238];
        for (int k = 0; k < 238; k += 2) {
            descent[k] = 119 - k / 2;
            descent[k + 1] = 118 - k / 2;
        }
        due512th(descent, 120, "places", 1);
        due512th(descent, false, "way", 0, 119);
        due512th(descent, true, "drop", 1, 0);
        due512th(descent, true, "reaches", 119, 0);
        due512th(descent, 119, "far", 119, 0);
        due512th(descent, -1, "circle");
        due512th(descent, 119, "group", 119);
        due512th(descent, 120, "groups");
        due512th(descent, 119, "order", 0);
        due512th(descent, 119, "level", 0);
        due512th(descent, 1, "paths", 119, 0);
        due512th(descent, 1, "gate", 119, 0);
        due512th(descent, true, "all", 119, 0, 64);
        due512th(descent, 119, "count", 1);
        due512th(descent, NO_SUCH, "order", 120);
        due512th(descent, ARGUMENT, "places", 121);
        due512th(new int[] {7, 7}, STATE, "level", 0);
    }

    private static void due512th(int[] ends, Object want, String call, int... at) {
        String[] between = {"groups", "circle", "order", "level", "count"};
        for (String filler : between) {
            Probe x = bench(120, ends);
            x.askUpTo(MOST_CALLS - 1, filler, 3);
            x.due(want, call, at);
        }
        Probe y = bench(120, ends);
        y.askUpTo(MOST_CALLS - 1, "all", 0, 120, -1);
        y.due(want, call, at);
    }

    private static void calls512OfWays() {
        Probe x = bench(120);
        for (int k = 0; k < 510; k++) {
            x.due(false, "way", k % 120, (k % 120 + k / 120) % 120);
        }
        x.due(510, "count", 1);
        same("calls", MOST_CALLS, x.calls);
        Probe y = new Probe();
        y.askUpTo(MOST_CALLS - 1, "way", 10, 10);
        y.due(0, "count", 1);
    }

    /** The same call again and again, up to the 512th: each time the same answer. */
    private static void calls512AllTheSame() {
        int[] ends = {0, 1, 1, 3, 3, 2, 0, 3};
        dueUpTo512(ends, 4, "places", 4);
        dueUpTo512(ends, ARGUMENT, "places", 0);
        dueUpTo512(ends, true, "way", 0, 1);
        dueUpTo512(ends, NO_SUCH, "way", 0, 4);
        dueUpTo512(ends, false, "drop", 1, 0);
        dueUpTo512(ends, NO_SUCH, "drop", -1, 0);
        dueUpTo512(ends, true, "reaches", 0, 2);
        dueUpTo512(ends, false, "reaches", 2, 0);
        dueUpTo512(ends, 2, "far", 0, 2);
        dueUpTo512(ends, -1, "far", 2, 0);
        dueUpTo512(ends, -1, "circle");
        dueUpTo512(ends, 3, "group", 3);
        dueUpTo512(ends, 4, "groups");
        dueUpTo512(ends, 2, "order", 3);
        dueUpTo512(ends, NO_SUCH, "order", 4);
        dueUpTo512(ends, 3, "level", 2);
        dueUpTo512(ends, 2, "paths", 0, 2);
        dueUpTo512(ends, 3, "gate", 0, 2);
        dueUpTo512(ends, -1, "gate", 2, 0);
        dueUpTo512(ends, true, "all", 0, 2, 3);
        dueUpTo512(ends, false, "all", 0, 2, 1);
        int[] counts = {4, 4, 1, 0, -1};
        int[] countsOfRing = {4, 4, 0, 4, -1};
        int[] ring = line(4, true);
        for (int what = 0; what < 5; what++) {
            dueUpTo512(ends, counts[what], "count", what);
            dueUpTo512(ring, countsOfRing[what], "count", what);
        }
        dueUpTo512(ring, 0, "circle");
        dueUpTo512(ring, 0, "group", 3);
        dueUpTo512(ring, 1, "groups");
        dueUpTo512(ring, STATE, "order", 3);
        dueUpTo512(ring, STATE, "level", 2);
        dueUpTo512(ring, STATE, "paths", 0, 2);
    }

    private static void dueUpTo512(int[] ends, Object want, String call, int... at) {
        Probe x = bench(4, ends);
        while (x.calls < MOST_CALLS) {
            x.due(want, call, at);
        }
    }

    // Promise 2

    private static void placesAnswersWhatItWas() {
        Probe x = new Probe();
        x.due(10, "places", 120);
        x.due(120, "places", 1);
        x.due(1, "places", 1);
        x.due(1, "places", 64);
        x.due(64, "places", 63);
        x.due(63, "count", 0);
    }

    private static void placesLeavesNoWays() {
        for (int n : new int[] {1, 2, 9, 10, 11, 64, 120}) {
            Probe x = new Probe().ways(0, 0, 0, 9, 9, 0, 3, 4, 8, 9);
            x.due(10, "places", n);
            x.due(0, "count", 1);
            x.due(n, "count", 2);
            x.due(0, "count", 3);
            x.due(n, "groups");
            x.due(0, "order", 0);
            x.due(false, "drop", 0, 0);
            x.ask("places", 10);
            for (int pair = 0; pair < 100; pair++) {
                x.due(false, "drop", pair / 10, pair % 10);
            }
        }
        Probe great = bench(120, 119, 119, 119, 0, 64, 63);
        great.due(120, "places", 5);
        great.due(5, "places", 120);
        great.due(false, "drop", 119, 119);
        great.due(false, "way", 119, 0);
        great.due(false, "reaches", 64, 63);
        great.due(119, "count", 2);
    }

    private static void placesRefused() {
        int[] not = {0, -1, -10, -119, -120, 121, 122, 127, 128, 129, 255, 256, 257, 266, 376, 65536, 65537, 65546,
            Integer.MIN_VALUE, Integer.MIN_VALUE + 10, Integer.MAX_VALUE};
        for (int n : not) {
            for (int[] ends : WAYS_OF_TEN) {
                refused(ARGUMENT, 10, ends, "places", n);
            }
            refused(ARGUMENT, 1, new int[] {0, 0}, "places", n);
            refused(ARGUMENT, 120, line(120, false), "places", n);
        }
        Probe x = new Probe();
        x.due(ARGUMENT, "places", 0);
        x.due(10, "count", 0);
        x.due(10, "places", 120);
        x.due(120, "places", 1);
    }

    // Promises 3 and 4

    private static void wayAndDropTellWhetherThereWas() {
        Probe x = bench(120);
        int[] seams = {0, 1, 62, 63, 64, 65, 118, 119};
        for (int a : seams) {
            for (int b : seams) {
                x.due(false, "way", a, b);
                x.due(true, "way", a, b);
            }
        }
        x.due(64, "count", 1);
        for (int a : seams) {
            for (int b : seams) {
                x.due(true, "drop", a, b);
                x.due(false, "drop", a, b);
            }
        }
        x.due(0, "count", 1);
    }

    /** With all ways there, and without them one by one. */
    private static void fullBench() {
        Probe x = bench(15);
        for (int pair = 0; pair < 225; pair++) {
            x.due(false, "way", pair / 15, pair % 15);
        }
        x.due(225, "count", 1);
        x.due(0, "count", 2);
        x.due(15, "count", 3);
        x.due(0, "circle");
        x.due(1, "groups");
        x.due(0, "group", 14);
        x.due(1, "far", 14, 0);
        x.due(0, "far", 14, 14);
        x.due(14, "gate", 14, 0);
        x.due(false, "all", 14, 0, 7);
        x.due(STATE, "order", 0);
        for (int pair = 0; pair < 225; pair++) {
            x.due(true, "drop", pair / 15, pair % 15);
        }
        x.due(0, "count", 1);
        x.due(14, "order", 14);
    }

    // Promises 5 and 6

    private static void reachesItself() {
        Probe empty = bench(120);
        Probe ring = bench(120, line(120, true));
        for (int p = 0; p < 120; p++) {
            empty.due(true, "reaches", p, p);
            ring.due(true, "reaches", p, p);
        }
        empty.due(false, "reaches", 0, 119);
        empty.due(false, "reaches", 119, 0);
        Probe self = bench(1, 0, 0);
        self.due(true, "reaches", 0, 0);
    }

    private static void farthestAndNone() {
        Probe x = bench(120, line(120, false));
        x.due(119, "far", 0, 119);
        x.due(-1, "far", 119, 0);
        x.due(-1, "far", 64, 63);
        x.due(1, "far", 63, 64);
        x.due(0, "far", 119, 119);
        x.ask("way", 119, 0);
        x.due(119, "far", 1, 0);
        x.due(0, "far", 1, 1);
        x.ask("drop", 63, 64);
        x.due(-1, "far", 0, 119);
        x.due(119, "far", 64, 63);
        Probe one = bench(1);
        one.due(0, "far", 0, 0);
        one.ask("way", 0, 0);
        one.due(0, "far", 0, 0);
        Probe shorter = bench(6, 0, 1, 1, 2, 2, 3, 3, 4, 4, 5, 0, 3, 3, 1);
        shorter.due(3, "far", 0, 5);
        shorter.due(2, "far", 0, 4);
        shorter.due(1, "far", 0, 1);
    }

    // Promises 7, 8 and 9

    private static void noCircle() {
        new Probe().due(-1, "circle");
        bench(1).due(-1, "circle");
        bench(120, line(120, false)).due(-1, "circle");
        Probe x = bench(120, 118, 119, 119, 118);
        x.due(118, "circle");
        x.ask("drop", 119, 118);
        x.due(-1, "circle");
        x.ask("way", 119, 119);
        x.due(119, "circle");
        x.ask("places", 120);
        x.due(-1, "circle");
    }

    private static void leastOnACircle() {
        Probe x = bench(120, 0, 1, 1, 64, 64, 63, 63, 64, 119, 119, 63, 2);
        x.due(63, "circle");
        x.due(3, "count", 3);
        x.ask("way", 2, 1);
        x.due(1, "circle");
        x.due(5, "count", 3);
        bench(1, 0, 0).due(0, "circle");
        bench(120, line(120, true)).due(0, "circle");
    }

    private static void groupOfOneAndOfAll() {
        Probe empty = bench(120);
        Probe ring = bench(120, line(120, true));
        Probe ordered = bench(120, line(120, false));
        for (int p = 0; p < 120; p++) {
            empty.due(p, "group", p);
            ring.due(0, "group", p);
            ordered.due(p, "group", p);
        }
        Probe there = bench(4, 3, 0, 1, 3);
        there.due(3, "group", 3);
        there.due(0, "group", 0);
        there.ask("way", 0, 1);
        there.due(0, "group", 3);
        there.due(2, "group", 2);
    }

    private static void groupsOfOneAndOfAll() {
        bench(1).due(1, "groups");
        bench(1, 0, 0).due(1, "groups");
        bench(2).due(2, "groups");
        bench(2, 0, 1).due(2, "groups");
        bench(2, 0, 1, 1, 0).due(1, "groups");
        bench(120).due(120, "groups");
        bench(120, line(120, false)).due(120, "groups");
        Probe ring = bench(120, line(120, true));
        ring.due(1, "groups");
        ring.ask("drop", 63, 64);
        ring.due(120, "groups");
        ring.ask("way", 65, 64);
        ring.due(119, "groups");
    }

    // Promise 10

    /** All benches of four places without ways to themselves, and all orders of each: the definition itself. */
    private static void leastOfAllOrders() {
        int[][] rows = rowsOfFour();
        for (int ways = 0; ways < 1 << 12; ways++) {
            Probe x = bench(4);
            boolean[][] way = new boolean[4][4];
            for (int k = 0; k < 12; k++) {
                int a = k / 3;
                int b = k % 3 < a ? k % 3 : k % 3 + 1;
                if ((ways >> k & 1) == 1) {
                    way[a][b] = true;
                    x.ask("way", a, b);
                }
            }
            int[] least = firstThatIsAnOrder(rows, way);
            for (int i = 0; i < 4; i++) {
                x.due(least == null ? STATE : least[i], "order", i);
            }
        }
    }

    /** The 24 rows of four places, the least at the first place at which two differ first. */
    private static int[][] rowsOfFour() {
        int[][] rows = new int[24][];
        int found = 0;
        for (int k = 0; k < 256; k++) {
            int[] row = {k >> 6, k >> 4 & 3, k >> 2 & 3, k & 3};
            if (Arrays.stream(row).distinct().count() == 4) {
                rows[found++] = row;
            }
        }
        return rows;
    }

    private static int[] firstThatIsAnOrder(int[][] rows, boolean[][] way) {
        for (int[] row : rows) {
            boolean fits = true;
            for (int i = 0; i < 4; i++) {
                for (int later = i; later < 4; later++) {
                    fits &= !way[row[later]][row[i]];
                }
            }
            if (fits) {
                return row;
            }
        }
        return null;
    }

    private static void noSuchI() {
        for (int n : new int[] {1, 2, 10, 64, 120}) {
            for (int[] ends : new int[][] {{}, line(n, false), {0, 0}}) {
                Probe x = bench(n, ends);
                for (int i : new int[] {-1, n, n + 1, 120, 121, 128, 256, -n, Integer.MIN_VALUE, Integer.MAX_VALUE}) {
                    if (i < 0 || i >= n) {
                        x.due(NO_SUCH, "order", i);
                    }
                }
            }
            bench(n).due(n - 1, "order", n - 1);
            bench(n).due(0, "order", 0);
        }
        refused(NO_SUCH, 10, line(10, false), "order", 10);
        refused(NO_SUCH, 10, line(10, true), "order", -1);
    }

    private static void orderWithACircle() {
        stateInAllSteads("order", 1);
        Probe behind = bench(4, 0, 1, 2, 3, 3, 2);
        behind.due(STATE, "order", 0);
        behind.ask("drop", 3, 2);
        behind.due(0, "order", 0);
    }

    /** With a circle at either end, of one place or of all, and none again when it is gone. */
    private static void stateInAllSteads(String call, int steads) {
        for (int n : new int[] {1, 2, 10, 120}) {
            for (int[] ends : new int[][] {{0, 0}, {n - 1, n - 1}, line(n, true)}) {
                Probe x = bench(n, ends);
                for (int p = 0; p < n; p++) {
                    x.due(STATE, call, filled(steads, p));
                }
                x.ask("drop", ends[ends.length - 2], ends[ends.length - 1]);
                for (int p = 0; p < n; p++) {
                    same("no circle", true, x.ask(call, filled(steads, p)) instanceof Integer);
                }
            }
        }
    }

    // Promise 11

    private static void levelLeastAndGreatest() {
        Probe x = bench(120, line(120, false));
        x.due(0, "level", 0);
        x.due(64, "level", 64);
        x.due(119, "level", 119);
        x.ask("way", 0, 119);
        x.due(119, "level", 119);
        x.ask("drop", 118, 119);
        x.due(1, "level", 119);
        bench(1).due(0, "level", 0);
        bench(120).due(0, "level", 119);
        Probe uneven = bench(6, 0, 1, 1, 2, 2, 4, 3, 4, 0, 4, 4, 5, 3, 5);
        uneven.due(3, "level", 4);
        uneven.due(4, "level", 5);
    }

    private static void levelWithACircle() {
        stateInAllSteads("level", 1);
        bench(4, 0, 1, 2, 3, 3, 2).due(STATE, "level", 0);
    }

    // Promise 12

    /** Among places that each have ways from all before them, place k ends 2 to the (k - 1) paths from 0. */
    private static void pathsRoundTheModulus() {
        Probe x = bench(25);
        for (int b = 1; b <= 20; b++) {
            for (int a = 0; a < b; a++) {
                x.ask("way", a, b);
            }
        }
        x.due(524288, "paths", 0, 20);
        for (int k = 0; k < 4; k++) {
            for (int bit = 0; bit < 20; bit++) {
                if ((1000001 + k >> bit & 1) == 1) {
                    x.ask("way", bit + 1, 21 + k);
                }
            }
        }
        x.due(1000001, "paths", 0, 21);
        x.due(1000002, "paths", 0, 22);
        x.due(0, "paths", 0, 23);
        x.due(1, "paths", 0, 24);
        x.due(0, "paths", 24, 0);
    }

    /** The number of paths, counted whole, goes far beyond any int or long. */
    private static void pathsFarBeyondTheModulus() {
        Probe x = bench(120);
        BigInteger[] whole = new BigInteger[120];
        Arrays.fill(whole, BigInteger.ZERO);
        whole[0] = BigInteger.ONE;
        for (int a = 0; a < 120; a++) {
            for (int b = a + 1; b < 120 && b <= a + 4; b++) {
                x.ask("way", a, b);
                whole[b] = whole[b].add(whole[a]);
            }
        }
        same("the whole number is great", true, whole[119].bitLength() > 100);
        for (int b : new int[] {0, 1, 4, 20, 21, 22, 23, 24, 34, 35, 63, 64, 68, 70, 100, 118, 119}) {
            x.due(whole[b].mod(BigInteger.valueOf(1000003)).intValue(), "paths", 0, b);
        }
    }

    private static void pathsWithACircle() {
        stateInAllSteads("paths", 2);
        Probe x = bench(5, 0, 1, 3, 3);
        x.due(STATE, "paths", 0, 1);
        x.due(STATE, "paths", 1, 0);
        x.due(STATE, "paths", 2, 2);
    }

    // Promise 13

    private static void gateOfItselfAndOfNone() {
        for (int n : new int[] {1, 2, 64, 120}) {
            Probe empty = bench(n);
            Probe ring = bench(n, line(n, true));
            for (int p = 0; p < n; p++) {
                empty.due(-1, "gate", p, p);
                ring.due(-1, "gate", p, p);
            }
        }
        Probe x = bench(120, line(120, false));
        x.due(-1, "gate", 119, 0);
        x.due(-1, "gate", 64, 63);
        x.due(-1, "gate", 64, 64);
        x.due(63, "gate", 63, 64);
        x.due(118, "gate", 0, 119);
        x.ask("drop", 117, 118);
        x.due(-1, "gate", 0, 119);
    }

    private static void gateIsNotBButMayBeA() {
        Probe x = bench(6, 4, 1, 4, 2, 1, 3, 2, 3, 3, 3);
        x.due(4, "gate", 4, 1);
        x.due(4, "gate", 4, 3);
        x.due(2, "gate", 2, 3);
        x.due(-1, "gate", 0, 3);
    }

    private static void gateIsTheLast() {
        Probe x = bench(8, 0, 7, 7, 1, 1, 6, 6, 2, 2, 5, 5, 2, 2, 7, 5, 3, 6, 0);
        x.due(0, "gate", 0, 7);
        x.due(7, "gate", 0, 1);
        x.due(1, "gate", 0, 6);
        x.due(6, "gate", 0, 2);
        x.due(2, "gate", 0, 5);
        x.due(5, "gate", 0, 3);
        x.ask("way", 1, 2);
        x.due(1, "gate", 0, 2);
        x.ask("way", 0, 3);
        x.due(0, "gate", 0, 3);
    }

    // Promise 14

    private static void allWithoutAPath() {
        Probe x = bench(5, 0, 1, 3, 0, 4, 4);
        for (int c = 0; c < 5; c++) {
            x.due(true, "all", 0, 2, c);
            x.due(true, "all", 1, 0, c);
            x.due(true, "all", 4, 3, c);
        }
        Probe great = bench(120, line(120, false));
        great.due(true, "all", 119, 0, 64);
        great.due(true, "all", 64, 63, 0);
        great.due(NO_SUCH, "all", 119, 0, 120);
        great.due(NO_SUCH, "all", 119, 0, -1);
    }

    private static void allAtTheEndsAndBeside() {
        Probe x = bench(6, 0, 1, 1, 2, 0, 3, 3, 2, 2, 0);
        x.due(true, "all", 0, 2, 0);
        x.due(true, "all", 0, 2, 2);
        x.due(false, "all", 0, 2, 1);
        x.due(false, "all", 0, 2, 5);
        x.due(true, "all", 1, 0, 2);
        x.due(true, "all", 0, 0, 0);
        x.due(false, "all", 0, 0, 2);
        Probe one = bench(1);
        one.due(true, "all", 0, 0, 0);
        Probe great = bench(120, line(120, false));
        for (int c = 0; c < 120; c++) {
            great.due(c >= 5 && c <= 115, "all", 5, 115, c);
        }
    }

    // Promise 15

    private static void countsOfLeastAndMost() {
        Probe one = bench(1);
        int[] without = {1, 0, 1, 0};
        int[] with = {1, 1, 0, 1};
        for (int what = 0; what < 4; what++) {
            one.due(without[what], "count", what);
        }
        one.ask("way", 0, 0);
        for (int what = 0; what < 4; what++) {
            one.due(with[what], "count", what);
        }
        Probe most = bench(120);
        int[] none = {120, 0, 120, 0};
        int[] ring = {120, 120, 0, 120};
        for (int what = 0; what < 4; what++) {
            most.due(none[what], "count", what);
        }
        most.ways(line(120, true));
        for (int what = 0; what < 4; what++) {
            most.due(ring[what], "count", what);
        }
    }

    private static void countElse() {
        Probe x = bench(5, 0, 1, 2, 2);
        for (int what : new int[] {-1, -2, 4, 5, 10, 256, 257, 65536, 65539, Integer.MIN_VALUE, Integer.MIN_VALUE + 3,
            Integer.MAX_VALUE}) {
            x.due(-1, "count", what);
        }
        x.due(5, "count", 0);
        x.due(2, "count", 1);
        x.due(3, "count", 2);
        x.due(1, "count", 3);
        refused(-1, 10, line(10, false), "count", 4);
        refused(-1, 10, line(10, false), "count", -1);
    }

    private static void terms() {
        check("PLACES 0 .. N - 1", EdgeTest::placesFromZeroToBelowN);
        check("N 1 to 120", EdgeTest::sizesFromOneTo120);
        check("10 at first", EdgeTest::tenAtFirst);
        check("WAYS from a PLACE to a PLACE (to itself, too)", EdgeTest::waysToItself);
        check("each there or not", EdgeTest::thereOrNot);
        check("none at first", EdgeTest::noWaysAtFirst);
        check("PATH: ... of one PLACE alone, too", EdgeTest::pathOfOnePlace);
        check("CIRCLE: a PATH with a WAY or more that ends where it begins", EdgeTest::circlesAndNone);
        check("a WAY from a PLACE to itself is one", EdgeTest::wayToItselfIsACircle);
        check("a PLACE that there is not; then nothing changes", EdgeTest::noSuchPlaceChangesNothing);
        check("a PLACE that there is not, behind places", EdgeTest::noSuchPlaceBehindPlaces);
        check("It comes before IllegalStateException", EdgeTest::noSuchBeforeIllegalState);
        check("IllegalStateException, behind which nothing changes, either", EdgeTest::illegalStateChangesNothing);
        check("no IllegalStateException where the face has none", EdgeTest::onlyThreeCallsMindACircle);
        check("An object is used for at most 512 calls after it has been made", EdgeTest::the512thCall);
        check("An object is used for at most 512 calls, all of one kind", EdgeTest::calls512OfWays);
        check("An object is used for at most 512 calls, all the same", EdgeTest::calls512AllTheSame);
    }

    private static void promises2To9() {
        check("2: what it was", EdgeTest::placesAnswersWhatItWas);
        check("2: without WAYS", EdgeTest::placesLeavesNoWays);
        check("2: IllegalArgumentException: n is not 1 .. 120", EdgeTest::placesRefused);
        check("3, 4: whether there was", EdgeTest::wayAndDropTellWhetherThereWas);
        check("3, 4: all WAYS there", EdgeTest::fullBench);
        check("5: from a PLACE to itself there is", EdgeTest::reachesItself);
        check("6: -1: there is none", EdgeTest::farthestAndNone);
        check("7: -1: there is no CIRCLE", EdgeTest::noCircle);
        check("7: the least PLACE on a CIRCLE", EdgeTest::leastOnACircle);
        check("8: the least PLACE, a itself too", EdgeTest::groupOfOneAndOfAll);
        check("9: how many different ones", EdgeTest::groupsOfOneAndOfAll);
    }

    private static void promises10To15() {
        check("10: the least PLACE at the first i at which they differ", EdgeTest::leastOfAllOrders);
        check("10: NoSuchElementException: no such i", EdgeTest::noSuchI);
        check("10: IllegalStateException: there is a CIRCLE", EdgeTest::orderWithACircle);
        check("11: the greatest number of WAYS", EdgeTest::levelLeastAndGreatest);
        check("11: IllegalStateException: there is a CIRCLE", EdgeTest::levelWithACircle);
        check("12: modulo 1,000,003", EdgeTest::pathsRoundTheModulus);
        check("12: modulo 1,000,003, of great numbers", EdgeTest::pathsFarBeyondTheModulus);
        check("12: IllegalStateException: there is a CIRCLE", EdgeTest::pathsWithACircle);
        check("13: -1: b is a, or can't be reached", EdgeTest::gateOfItselfAndOfNone);
        check("13: a PLACE that is not b", EdgeTest::gateIsNotBButMayBeA);
        check("13: the one that is the last on them", EdgeTest::gateIsTheLast);
        check("14: a PLACE that can't be reached: true", EdgeTest::allWithoutAPath);
        check("14: whether c is on all PATHS", EdgeTest::allAtTheEndsAndBeside);
        check("15: 0 N; 1 WAYS; 2 PLACES without a WAY to them; 3 PLACES on CIRCLES", EdgeTest::countsOfLeastAndMost);
        check("15: Else -1", EdgeTest::countElse);
    }

    public static void main(String[] args) {
        terms();
        promises2To9();
        promises10To15();
        System.out.println(sentences + " sentences, " + checks + " checks, " + wrong + " wrong");
        if (wrong != 0) {
            System.exit(1);
        }
    }
}
