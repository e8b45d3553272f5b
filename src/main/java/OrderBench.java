import java.util.Arrays;
import java.util.NoSuchElementException;

/** Places with ways from one to another, and what can be said of the paths along them. */
public final class OrderBench {
    private static final int MOST_PLACES = 120;
    private static final int FIRST_PLACES = 10;
    private static final int MODULUS = 1000003;
    private static final int NONE = -1;

    private int size;
    private final PlaceSet[] out;
    private final PlaceSet[] into;

    // Made once and used again by every call, because what a run makes is counted.
    private final PlaceSet reached;
    private final PlaceSet rim;
    private final PlaceSet fresh;
    private final PlaceSet kept;
    private final int[] line;
    private final int[] waiting;
    private final int[] tally;

    public OrderBench() {
        size = FIRST_PLACES;
        out = new PlaceSet[MOST_PLACES];
        into = new PlaceSet[MOST_PLACES];
        for (int p = 0; p < MOST_PLACES; p++) {
            out[p] = new PlaceSet();
            into[p] = new PlaceSet();
        }
        reached = new PlaceSet();
        rim = new PlaceSet();
        fresh = new PlaceSet();
        kept = new PlaceSet();
        line = new int[MOST_PLACES];
        waiting = new int[MOST_PLACES];
        tally = new int[MOST_PLACES];
    }

    public int places(int n) throws IllegalArgumentException {
        if (n < 1 || n > MOST_PLACES) {
            throw new IllegalArgumentException();
        }
        int before = size;
        size = n;
        for (int p = 0; p < MOST_PLACES; p++) {
            out[p].clear();
            into[p].clear();
        }
        return before;
    }

    public boolean way(int a, int b) throws NoSuchElementException {
        mustBePlace(a);
        mustBePlace(b);
        boolean before = out[a].has(b);
        out[a].add(b);
        into[b].add(a);
        return before;
    }

    public boolean drop(int a, int b) throws NoSuchElementException {
        mustBePlace(a);
        mustBePlace(b);
        boolean before = out[a].has(b);
        out[a].remove(b);
        into[b].remove(a);
        return before;
    }

    public boolean reaches(int a, int b) throws NoSuchElementException {
        mustBePlace(a);
        mustBePlace(b);
        return search(out, a, b, NONE) != NONE;
    }

    public int far(int a, int b) throws NoSuchElementException {
        mustBePlace(a);
        mustBePlace(b);
        return search(out, a, b, NONE);
    }

    public int circle() {
        for (int p = 0; p < size; p++) {
            if (isOnCircle(p)) {
                return p;
            }
        }
        return NONE;
    }

    public int group(int a) throws NoSuchElementException {
        mustBePlace(a);
        return leastOfGroup(a);
    }

    public int groups() {
        int found = 0;
        for (int p = 0; p < size; p++) {
            if (leastOfGroup(p) == p) {
                found++;
            }
        }
        return found;
    }

    public int order(int i) throws NoSuchElementException, IllegalStateException {
        mustBePlace(i);
        lineUp();
        return line[i];
    }

    public int level(int a) throws NoSuchElementException, IllegalStateException {
        mustBePlace(a);
        lineUp();
        tallyLongest();
        return tally[a];
    }

    public int paths(int a, int b) throws NoSuchElementException, IllegalStateException {
        mustBePlace(a);
        mustBePlace(b);
        lineUp();
        tallyPaths(a);
        return tally[b];
    }

    public int gate(int a, int b) throws NoSuchElementException {
        mustBePlace(a);
        mustBePlace(b);
        if (a == b || search(out, a, b, NONE) == NONE) {
            return NONE;
        }
        return lastGate(a, b);
    }

    public boolean all(int a, int b, int c) throws NoSuchElementException {
        mustBePlace(a);
        mustBePlace(b);
        mustBePlace(c);
        // With c shut, b is out of reach if all paths to it need c (b itself is on all of them) or if there is none.
        return search(out, a, b, c) == NONE;
    }

    public int count(int what) {
        switch (what) {
            case 0:
                return size;
            case 1:
                return countWays();
            case 2:
                return countWithoutWayTo();
            case 3:
                return countOnCircles();
            default:
                return NONE;
        }
    }

    private void mustBePlace(int p) {
        if (p < 0 || p >= size) {
            throw new NoSuchElementException();
        }
    }

    /**
     * The least number of ways from start to goal on a path that keeps out of the place shut, or NONE.
     * If it is NONE, reached holds all places that such paths lead to: a goal of NONE asks for these alone.
     */
    private int search(PlaceSet[] ways, int start, int goal, int shut) {
        reached.clear();
        if (start == shut) {
            return NONE;
        }
        reached.add(start);
        rim.clear();
        rim.add(start);
        for (int steps = 0; steps < size; steps++) {
            if (rim.has(goal)) {
                return steps;
            }
            moveRim(ways, shut);
            if (rim.isEmpty()) {
                return NONE;
            }
        }
        return NONE;
    }

    private void moveRim(PlaceSet[] ways, int shut) {
        fresh.clear();
        for (int p = rim.next(0); p < size; p = rim.next(p + 1)) {
            fresh.addAllOf(ways[p]);
        }
        fresh.removeAllOf(reached);
        fresh.remove(shut);
        reached.addAllOf(fresh);
        rim.clear();
        rim.addAllOf(fresh);
    }

    private boolean isOnCircle(int p) {
        search(out, p, NONE, NONE);
        return reached.meets(into[p]);
    }

    private int leastOfGroup(int a) {
        search(out, a, NONE, NONE);
        kept.clear();
        kept.addAllOf(reached);
        search(into, a, NONE, NONE);
        kept.keepAllOf(reached);
        return kept.next(0);
    }

    /**
     * Of two gates the later one, shut, leaves more places in reach: the earlier one, and all that the
     * earlier one, shut, leaves. So the last gate is the one that leaves the most.
     */
    private int lastGate(int a, int b) {
        int last = NONE;
        int most = -1;
        for (int c = 0; c < size; c++) {
            if (c != b && search(out, a, b, c) == NONE && reached.size() > most) {
                most = reached.size();
                last = c;
            }
        }
        return last;
    }

    /** Fills line with THE ORDER. The least place that waits for none goes next, which makes it the least order. */
    private void lineUp() {
        rim.clear();
        for (int p = 0; p < size; p++) {
            waiting[p] = into[p].size();
            if (waiting[p] == 0) {
                rim.add(p);
            }
        }
        for (int i = 0; i < size; i++) {
            int p = rim.next(0);
            if (p >= size) {
                // The places left wait for one another.
                throw new IllegalStateException();
            }
            rim.remove(p);
            line[i] = p;
            release(p);
        }
    }

    private void release(int p) {
        for (int q = out[p].next(0); q < size; q = out[p].next(q + 1)) {
            waiting[q]--;
            if (waiting[q] == 0) {
                rim.add(q);
            }
        }
    }

    private void tallyLongest() {
        Arrays.fill(tally, 0);
        for (int i = 0; i < size; i++) {
            int p = line[i];
            for (int q = out[p].next(0); q < size; q = out[p].next(q + 1)) {
                tally[q] = Math.max(tally[q], tally[p] + 1);
            }
        }
    }

    private void tallyPaths(int start) {
        Arrays.fill(tally, 0);
        tally[start] = 1;
        for (int i = 0; i < size; i++) {
            int p = line[i];
            for (int q = out[p].next(0); q < size; q = out[p].next(q + 1)) {
                tally[q] = (tally[q] + tally[p]) % MODULUS;
            }
        }
    }

    private int countWays() {
        int found = 0;
        for (int p = 0; p < size; p++) {
            found += out[p].size();
        }
        return found;
    }

    private int countWithoutWayTo() {
        int found = 0;
        for (int p = 0; p < size; p++) {
            if (into[p].isEmpty()) {
                found++;
            }
        }
        return found;
    }

    private int countOnCircles() {
        int found = 0;
        for (int p = 0; p < size; p++) {
            if (isOnCircle(p)) {
                found++;
            }
        }
        return found;
    }

    /** A set of places, a bit for each; a number outside 0 .. 127 is never in it. */
    private static final class PlaceSet {
        private static final int HALF = 64;
        private static final int END = 128;

        private long low;
        private long high;

        private static long lowBit(int p) {
            return p >= 0 && p < HALF ? 1L << p : 0L;
        }

        private static long highBit(int p) {
            return p >= HALF && p < END ? 1L << (p - HALF) : 0L;
        }

        /** How many bits stand below the lowest one that is set. */
        private static int lowest(long bits) {
            return Long.bitCount((bits & -bits) - 1);
        }

        boolean has(int p) {
            return (low & lowBit(p)) != 0 || (high & highBit(p)) != 0;
        }

        void add(int p) {
            low |= lowBit(p);
            high |= highBit(p);
        }

        void remove(int p) {
            low &= ~lowBit(p);
            high &= ~highBit(p);
        }

        void clear() {
            low = 0;
            high = 0;
        }

        void addAllOf(PlaceSet other) {
            low |= other.low;
            high |= other.high;
        }

        void removeAllOf(PlaceSet other) {
            low &= ~other.low;
            high &= ~other.high;
        }

        void keepAllOf(PlaceSet other) {
            low &= other.low;
            high &= other.high;
        }

        boolean meets(PlaceSet other) {
            return (low & other.low) != 0 || (high & other.high) != 0;
        }

        boolean isEmpty() {
            return low == 0 && high == 0;
        }

        int size() {
            return Long.bitCount(low) + Long.bitCount(high);
        }

        /** The least place of the set that is from or greater, from being 0 or greater; END if there is none. */
        int next(int from) {
            long lowRest = from < HALF ? low & -lowBit(from) : 0L;
            if (lowRest != 0) {
                return lowest(lowRest);
            }
            long highRest = from < HALF ? high : high & -highBit(from);
            return highRest != 0 ? HALF + lowest(highRest) : END;
        }
    }
}
