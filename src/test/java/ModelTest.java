import java.util.ArrayList;
import java.util.Arrays;
import java.util.HashSet;
import java.util.List;
import java.util.NoSuchElementException;
import java.util.Set;

/** Runs of calls, the same every time, on OrderBench and on a slow model that follows the words of the document. */
public final class ModelTest {
    private static final int CALLS = 512;
    private static final String[] NAMES = {
        "places", "way", "drop", "reaches", "far", "circle", "group", "groups", "order", "level", "paths", "gate",
        "all", "count"};
    private static final int[] TAKES = {1, 2, 2, 2, 2, 0, 1, 0, 1, 1, 2, 2, 3, 1};
    private static final int PLACES = 0;
    private static final int WAY = 1;
    private static final int DROP = 2;
    private static final int REACHES = 3;
    private static final int FAR = 4;
    private static final int CIRCLE = 5;
    private static final int GROUP = 6;
    private static final int GROUPS = 7;
    private static final int ORDER = 8;
    private static final int LEVEL = 9;
    private static final int PATHS = 10;
    private static final int GATE = 11;
    private static final int ALL = 12;
    private static final int COUNT = 13;
    private static final int FIRST_QUESTION = REACHES;

    /** How many of the last calls are kept for what can be asked of the whole bench at once. */
    private static final int RECKONING = 6;
    private static final int[] SIZES = {1, 2, 3, 4, 5, 6, 8, 10, 20, 40, 63, 64, 65, 100, 119, 120};
    private static final int[] OUTSIDE = {
        120, 121, 127, 128, 256, 65536, -64, -128, -65536, Integer.MIN_VALUE, Integer.MAX_VALUE};
    private static final int[] NO_SIZE = {
        0, -1, -10, -120, 121, 122, 128, 130, 266, 65546, Integer.MIN_VALUE, Integer.MAX_VALUE};

    private static int wrong = 0;
    private static long seed = 20261115L;

    /** Matrices and definitions alone, nothing of how OrderBench goes about it. */
    private static final class Model {
        private int n = 10;
        private boolean[][] way = new boolean[10][10];

        private void place(int... ps) {
            for (int p : ps) {
                if (p < 0 || p >= n) {
                    throw new NoSuchElementException();
                }
            }
        }

        private void noCircle() {
            if (circle() >= 0) {
                throw new IllegalStateException();
            }
        }

        int places(int m) {
            if (m < 1 || m > 120) {
                throw new IllegalArgumentException();
            }
            int before = n;
            n = m;
            way = new boolean[m][m];
            return before;
        }

        boolean set(int a, int b, boolean there) {
            place(a, b);
            boolean before = way[a][b];
            way[a][b] = there;
            return before;
        }

        /** The places at the ends of paths from a without the place shut. */
        private boolean[] ends(int a, int shut) {
            boolean[] seen = new boolean[n];
            if (a == shut) {
                return seen;
            }
            List<Integer> open = new ArrayList<>();
            seen[a] = true;
            open.add(a);
            while (!open.isEmpty()) {
                int p = open.remove(open.size() - 1);
                for (int q = 0; q < n; q++) {
                    if (way[p][q] && q != shut && !seen[q]) {
                        seen[q] = true;
                        open.add(q);
                    }
                }
            }
            return seen;
        }

        boolean reaches(int a, int b) {
            place(a, b);
            return ends(a, -1)[b];
        }

        /** Bellman and Ford: rounds over all ways, until one changes nothing. */
        int far(int a, int b) {
            place(a, b);
            int[] steps = new int[n];
            Arrays.fill(steps, 1000);
            steps[a] = 0;
            boolean changed = true;
            while (changed) {
                changed = false;
                for (int p = 0; p < n; p++) {
                    for (int q = 0; q < n; q++) {
                        if (way[p][q] && steps[p] + 1 < steps[q]) {
                            steps[q] = steps[p] + 1;
                            changed = true;
                        }
                    }
                }
            }
            return steps[b] == 1000 ? -1 : steps[b];
        }

        /** Which places lead to which over a way or more: Warshall. */
        private boolean[][] closure() {
            boolean[][] to = new boolean[n][];
            for (int p = 0; p < n; p++) {
                to[p] = way[p].clone();
            }
            for (int k = 0; k < n; k++) {
                for (int p = 0; p < n; p++) {
                    for (int q = 0; to[p][k] && q < n; q++) {
                        to[p][q] |= to[k][q];
                    }
                }
            }
            return to;
        }

        int circle() {
            boolean[][] to = closure();
            for (int p = 0; p < n; p++) {
                if (to[p][p]) {
                    return p;
                }
            }
            return -1;
        }

        private int leastWith(boolean[][] to, int a) {
            for (int p = 0; p < a; p++) {
                if (to[p][a] && to[a][p]) {
                    return p;
                }
            }
            return a;
        }

        int group(int a) {
            place(a);
            return leastWith(closure(), a);
        }

        int groups() {
            boolean[][] to = closure();
            Set<Integer> found = new HashSet<>();
            for (int p = 0; p < n; p++) {
                found.add(leastWith(to, p));
            }
            return found.size();
        }

        int order(int i) {
            place(i);
            noCircle();
            boolean[] stands = new boolean[n];
            int last = -1;
            for (int k = 0; k <= i; k++) {
                last = -1;
                for (int p = n - 1; p >= 0; p--) {
                    boolean free = !stands[p];
                    for (int q = 0; q < n; q++) {
                        free &= !way[q][p] || stands[q];
                    }
                    last = free ? p : last;
                }
                stands[last] = true;
            }
            return last;
        }

        /** The greatest number of ways for which there is still a path that ends at a. */
        int level(int a) {
            place(a);
            noCircle();
            boolean[] starts = new boolean[n];
            starts[a] = true;
            for (int ways = 0; ways < n; ways++) {
                boolean[] earlier = new boolean[n];
                boolean any = false;
                for (int p = 0; p < n; p++) {
                    for (int q = 0; q < n; q++) {
                        earlier[p] |= way[p][q] && starts[q];
                    }
                    any |= earlier[p];
                }
                if (!any) {
                    return ways;
                }
                starts = earlier;
            }
            throw new AssertionError();
        }

        /** Paths by their number of ways, summed up. */
        int paths(int a, int b) {
            place(a, b);
            noCircle();
            long[] at = new long[n];
            at[a] = 1;
            long sum = 0;
            for (int ways = 0; ways < n; ways++) {
                sum += at[b];
                long[] then = new long[n];
                for (int p = 0; p < n; p++) {
                    for (int q = 0; q < n; q++) {
                        then[q] = way[p][q] ? (then[q] + at[p]) % 1000003 : then[q];
                    }
                }
                at = then;
            }
            return (int) (sum % 1000003);
        }

        private boolean onAll(int a, int b, int c) {
            return c == b || !ends(a, c)[b];
        }

        /** The gate before which all the others stand: each other one is on all paths to it. */
        int gate(int a, int b) {
            place(a, b);
            if (a == b || !ends(a, -1)[b]) {
                return -1;
            }
            List<Integer> gates = new ArrayList<>();
            List<boolean[]> without = new ArrayList<>();
            for (int c = 0; c < n; c++) {
                boolean[] ends = ends(a, c);
                if (c != b && !ends[b]) {
                    gates.add(c);
                    without.add(ends);
                }
            }
            for (int c : gates) {
                boolean last = true;
                for (boolean[] ends : without) {
                    last &= !ends[c];
                }
                if (last) {
                    return c;
                }
            }
            throw new AssertionError();
        }

        boolean all(int a, int b, int c) {
            place(a, b, c);
            return onAll(a, b, c);
        }

        int count(int what) {
            boolean[][] to = closure();
            int ways = 0;
            int without = 0;
            int circling = 0;
            for (int q = 0; q < n; q++) {
                int here = 0;
                for (int p = 0; p < n; p++) {
                    here += way[p][q] ? 1 : 0;
                }
                ways += here;
                without += here == 0 ? 1 : 0;
                circling += to[q][q] ? 1 : 0;
            }
            return what == 0 ? n : what == 1 ? ways : what == 2 ? without : what == 3 ? circling : -1;
        }
    }

    private static int below(int bound) {
        seed = seed * 6364136223846793005L + 1442695040888963407L;
        return (int) ((seed >>> 33) % bound);
    }

    /** The program and the model beside it: each call goes to both. */
    private static final class Pair {
        private final int run;
        private final OrderBench x = new OrderBench();
        private final Model m = new Model();
        private int left = CALLS;

        Pair(int run) {
            this.run = run;
        }

        void call(int call, int a, int b, int c) {
            left--;
            if (left < 0) {
                throw new AssertionError("run " + run + " asks one object too often");
            }
            Object got = ofProgram(call, a, b, c);
            Object want = ofModel(call, a, b, c);
            if (!got.equals(want)) {
                wrong++;
                System.out.println("run " + run + ", call " + (CALLS - left) + ": " + NAMES[call] + " of " + a + " " + b
                    + " " + c + " answered " + got + ", due is " + want);
            }
        }

        private Object ofProgram(int call, int a, int b, int c) {
            try {
                switch (call) {
                    case PLACES: return x.places(a);
                    case WAY: return x.way(a, b);
                    case DROP: return x.drop(a, b);
                    case REACHES: return x.reaches(a, b);
                    case FAR: return x.far(a, b);
                    case CIRCLE: return x.circle();
                    case GROUP: return x.group(a);
                    case GROUPS: return x.groups();
                    case ORDER: return x.order(a);
                    case LEVEL: return x.level(a);
                    case PATHS: return x.paths(a, b);
                    case GATE: return x.gate(a, b);
                    case ALL: return x.all(a, b, c);
                    default: return x.count(a);
                }
            } catch (RuntimeException e) {
                return e.getClass();
            }
        }

        private Object ofModel(int call, int a, int b, int c) {
            try {
                switch (call) {
                    case PLACES: return m.places(a);
                    case WAY: return m.set(a, b, true);
                    case DROP: return m.set(a, b, false);
                    case REACHES: return m.reaches(a, b);
                    case FAR: return m.far(a, b);
                    case CIRCLE: return m.circle();
                    case GROUP: return m.group(a);
                    case GROUPS: return m.groups();
                    case ORDER: return m.order(a);
                    case LEVEL: return m.level(a);
                    case PATHS: return m.paths(a, b);
                    case GATE: return m.gate(a, b);
                    case ALL: return m.all(a, b, c);
                    default: return m.count(a);
                }
            } catch (RuntimeException e) {
                return e.getClass();
            }
        }

        void places(int n) {
            call(PLACES, n, 0, 0);
        }

        void way(int a, int b) {
            call(WAY, a, b, 0);
        }

        void drop(int a, int b) {
            call(DROP, a, b, 0);
        }

        void question() {
            int call = FIRST_QUESTION + below(NAMES.length - FIRST_QUESTION);
            if (call == COUNT) {
                call(call, below(6) - 1, 0, 0);
            } else if (below(3) == 0) {
                call(call, someplace(m.n), someplace(m.n), someplace(m.n));
            } else {
                aim(call, below(m.n));
            }
        }

        /** Asks for what a path from a leads to, because on a great bench most places can't be reached from most. */
        private void aim(int call, int a) {
            List<Integer> walk = new ArrayList<>();
            for (int p = a; p >= 0 && walk.size() <= m.n; p = below(m.n) == 0 ? -1 : someNext(p)) {
                walk.add(p);
            }
            int b = walk.get(walk.size() - 1);
            int c = below(3) == 0 ? someplace(m.n) : walk.get(below(walk.size()));
            call(call, TAKES[call] == 1 ? b : a, b, c);
        }

        private int someNext(int p) {
            int from = below(m.n);
            for (int k = 0; k < m.n; k++) {
                int q = (from + k) % m.n;
                if (m.way[p][q]) {
                    return q;
                }
            }
            return -1;
        }

        void dropOneThatIsThere() {
            int from = below(m.n * m.n);
            for (int k = 0; k < m.n * m.n; k++) {
                int pair = (from + k) % (m.n * m.n);
                if (m.way[pair / m.n][pair % m.n]) {
                    drop(pair / m.n, pair % m.n);
                    return;
                }
            }
            drop(someplace(m.n), someplace(m.n));
        }

        /** What can be asked of the whole bench at once, with the last of the calls that an object may have. */
        void lastCalls() {
            while (left > RECKONING) {
                question();
            }
            for (int what = 0; what < 4; what++) {
                call(COUNT, what, 0, 0);
            }
            call(CIRCLE, 0, 0, 0);
            call(GROUPS, 0, 0, 0);
        }
    }

    /** Mostly a place, now and then a number that is none, most of these just outside. */
    private static int someplace(int n) {
        if (below(40) != 0) {
            return below(n);
        }
        return below(3) == 0 ? OUTSIDE[below(OUTSIDE.length)] : below(2) == 0 ? -1 : n;
    }

    private static int[] shuffled(int n) {
        int[] row = new int[n];
        for (int p = 0; p < n; p++) {
            int q = below(p + 1);
            row[p] = row[q];
            row[q] = p;
        }
        return row;
    }

    /** Ways that lead upward under a hidden shuffle make no circle; forward says how rarely one leads back. */
    private static void upward(Pair x, int n, int forward, int share) {
        x.places(n);
        int[] shuffle = shuffled(n);
        for (int k = 1; k < CALLS - RECKONING; k++) {
            if (k * 100 < CALLS * share || below(4) == 0) {
                int p = below(n);
                int q = below(3) == 0 ? below(n) : Math.min(n - 1, p + 1 + below(3));
                boolean back = below(forward) == 0;
                if (back || p != q) {
                    int from = back ? p : Math.min(p, q);
                    x.call(below(8) == 0 ? DROP : WAY, shuffle[from], shuffle[p + q - from], 0);
                }
            } else if (below(300) == 0) {
                x.places(below(2) == 0 ? n : 0);
            } else {
                x.question();
            }
        }
        x.lastCalls();
    }

    /** As many ways as the calls allow, upward under a hidden shuffle but for one in back; then a question of each. */
    private static void everyPlace(Pair x, int n, int call, int back) {
        x.places(n);
        int[] shuffle = shuffled(n);
        for (int k = CALLS - RECKONING - 1 - n; k > 0; k--) {
            int p = below(n);
            int q = below(n);
            int from = below(back) == 0 ? p : Math.min(p, q);
            if (p != q) {
                x.way(shuffle[from], shuffle[p + q - from]);
            }
        }
        for (int p = 0; p < n; p++) {
            x.call(call, p, p, p);
        }
        x.lastCalls();
    }

    /** Ways come and go as often as a question is asked: what one call learns must not outlive the next change. */
    private static void churn(Pair x, int n) {
        x.places(n);
        int most = 1 + below(2 * n);
        for (int k = 1; k < CALLS - RECKONING; k++) {
            int change = below(100);
            if (change == 0) {
                x.places(n);
            } else if (change == 1) {
                x.places(NO_SIZE[below(NO_SIZE.length)]);
            } else if (change >= 50) {
                x.question();
            } else if (x.m.count(1) < most && change < 40) {
                x.way(someplace(n), someplace(n));
            } else {
                x.dropOneThatIsThere();
            }
        }
        x.lastCalls();
    }

    /** One object that is small and great by turns: nothing of the one may show in the other. */
    private static void sizesByTurns(Pair x) {
        for (int k = 0; k < CALLS - RECKONING; k++) {
            int n = x.m.n;
            int change = below(100);
            if (change < 2) {
                x.places(below(2) == 0 ? 1 + below(5) : 120 - below(3));
            } else if (change < 60) {
                // Half of them among the few places that small and great benches have in common.
                int reach = below(2) == 0 ? Math.min(n, 6) : n;
                x.call(below(6) == 0 ? DROP : WAY, below(reach), below(reach), 0);
            } else {
                x.question();
            }
        }
        x.lastCalls();
    }

    /** A line over all places in a hidden shuffle, then single ways that cut it, shorten it or close a circle. */
    private static void longLine(Pair x, int n) {
        x.places(n);
        int[] shuffle = shuffled(n);
        for (int p = 1; p < n; p++) {
            x.way(shuffle[p - 1], shuffle[p]);
        }
        for (int k = n; k + 4 <= CALLS - RECKONING; k += 4) {
            int p = below(n);
            int q = below(4) == 0 ? below(n) : Math.min(n - 1, p + 2 + below(4));
            boolean cut = below(3) == 0 && p + 1 < n;
            x.call(cut ? DROP : WAY, shuffle[p], shuffle[cut ? p + 1 : q], 0);
            int call = FIRST_QUESTION + below(COUNT - FIRST_QUESTION);
            x.call(call, shuffle[below(1 + n / 8)], shuffle[n - 1 - below(1 + n / 8)], shuffle[p]);
            x.question();
            if (cut) {
                x.way(shuffle[p], shuffle[p + 1]);
            } else if (q <= p) {
                x.drop(shuffle[p], shuffle[q]);
            } else {
                x.question();
            }
        }
        x.lastCalls();
    }

    /** A call to the one object and a call to the other by turns: neither knows of the other's ways. */
    private static void twoByTurns(Pair x, Pair y, int n) {
        x.places(n);
        y.places(n > 10 ? 1 + below(10) : 120);
        for (int k = 1; k < CALLS - RECKONING; k++) {
            for (Pair z : new Pair[] {x, y}) {
                if (below(5) < 2) {
                    z.call(below(3) == 0 ? DROP : WAY, someplace(z.m.n), someplace(z.m.n), 0);
                } else {
                    z.question();
                }
            }
        }
        x.lastCalls();
        y.lastCalls();
    }

    /** Every bench of up to three places, and every question with every place and the numbers on both sides of them. */
    private static void everySmallBench() {
        for (int n = 1; n <= 3; n++) {
            for (int ways = 0; ways < 1 << n * n; ways++) {
                Pair x = new Pair(0);
                x.places(n);
                for (int pair = 0; pair < n * n; pair++) {
                    if ((ways >> pair & 1) == 1) {
                        x.way(pair / n, pair % n);
                    }
                }
                askAll(x, n);
            }
        }
    }

    private static void askAll(Pair x, int n) {
        for (int call = FIRST_QUESTION; call < NAMES.length; call++) {
            int last = call == COUNT ? 4 : n;
            for (int a = -1; a <= (TAKES[call] > 0 ? last : -1); a++) {
                for (int b = -1; b <= (TAKES[call] > 1 ? n : -1); b++) {
                    for (int c = -1; c <= (TAKES[call] > 2 ? n : -1); c++) {
                        x.call(call, a, b, c);
                    }
                }
            }
        }
    }

    public static void main(String[] args) {
        everySmallBench();
        int run = 0;
        for (int round = 0; round < 4; round++) {
            for (int n : SIZES) {
                upward(new Pair(++run), n, 1000000, 40);
                upward(new Pair(++run), n, 60, 20);
                upward(new Pair(++run), n, 4, 50);
                churn(new Pair(++run), n);
                sizesByTurns(new Pair(++run));
                twoByTurns(new Pair(++run), new Pair(++run), n);
            }
            for (int n : new int[] {2, 5, 12, 64, 120}) {
                everyPlace(new Pair(++run), n, ORDER, 1000000);
                everyPlace(new Pair(++run), n, LEVEL, 1000000);
                everyPlace(new Pair(++run), n, GROUP, 30);
            }
            for (int n : new int[] {3, 10, 64, 65, 119, 120, 120, 120}) {
                longLine(new Pair(++run), n);
            }
        }
        System.out.println(run + " runs, " + wrong + " wrong");
        if (wrong != 0) {
            System.exit(1);
        }
    }
}
