import java.util.ArrayList;
import java.util.Arrays;
import java.util.HashSet;
import java.util.List;
import java.util.NoSuchElementException;
import java.util.Set;

/** Runs of calls, the same every time, on OrderBench and on a slow model that follows the document's words. */
public final class ModelTest {
    private static final int CALLS = 512;
    private static final String[] NAMES = {
        "places", "way", "drop", "reaches", "far", "circle", "group", "groups", "order", "level", "paths", "gate",
        "all", "count"};
    private static final int[] TAKES = {1, 2, 2, 2, 2, 0, 1, 0, 1, 1, 2, 2, 3, 1};

    private static int wrong = 0;
    private static long seed = 20261115L;

    /** Matrices and definitions alone, nothing of how OrderBench goes about it. */
    private static final class Model {
        private int n = 10;
        private boolean[][] way = new boolean[10][10];

        private void place(int... ps) {
            for (int p : ps) {
                if (p < 0 || p >= n) {
                    throw new NoSuchElementException();
                }
            }
        }

        private void noCircle() {
            if (circle() >= 0) {
                throw new IllegalStateException();
            }
        }

        int places(int m) {
            if (m < 1 || m > 120) {
                throw new IllegalArgumentException();
            }
            int before = n;
            n = m;
            way = new boolean[m][m];
            return before;
        }

        boolean set(int a, int b, boolean there) {
            place(a, b);
            boolean before = way[a][b];
            way[a][b] = there;
            return before;
        }

        /** The places at the ends of paths from a without the place shut. */
        private boolean[] ends(int a, int shut) {
            boolean[] seen = new boolean[n];
            if (a == shut) {
                return seen;
            }
            List<Integer> open = new ArrayList<>();
            seen[a] = true;
            open.add(a);
            while (!open.isEmpty()) {
                int p = open.remove(open.size() - 1);
                for (int q = 0; q < n; q++) {
                    if (way[p][q] && q != shut && !seen[q]) {
                        seen[q] = true;
                        open.add(q);
                    }
                }
            }
            return seen;
        }

        boolean reaches(int a, int b) {
            place(a, b);
            return ends(a, -1)[b];
        }

        /** Bellman and Ford: n rounds over all ways. */
        int far(int a, int b) {
            place(a, b);
            int[] steps = new int[n];
            Arrays.fill(steps, 1000);
            steps[a] = 0;
            for (int round = 0; round < n; round++) {
                for (int p = 0; p < n; p++) {
                    for (int q = 0; q < n; q++) {
                        if (way[p][q]) {
                            steps[q] = Math.min(steps[q], steps[p] + 1);
                        }
                    }
                }
            }
            return steps[b] == 1000 ? -1 : steps[b];
        }

        /** Which places lead to which over a way or more: Warshall. */
        private boolean[][] closure() {
            boolean[][] to = new boolean[n][];
            for (int p = 0; p < n; p++) {
                to[p] = way[p].clone();
            }
            for (int k = 0; k < n; k++) {
                for (int p = 0; p < n; p++) {
                    for (int q = 0; to[p][k] && q < n; q++) {
                        to[p][q] |= to[k][q];
                    }
                }
            }
            return to;
        }

        int circle() {
            boolean[][] to = closure();
            for (int p = 0; p < n; p++) {
                if (to[p][p]) {
                    return p;
                }
            }
            return -1;
        }

        private int leastWith(boolean[][] to, int a) {
            for (int p = 0; p < a; p++) {
                if (to[p][a] && to[a][p]) {
                    return p;
                }
            }
            return a;
        }

        int group(int a) {
            place(a);
            return leastWith(closure(), a);
        }

        int groups() {
            boolean[][] to = closure();
            Set<Integer> found = new HashSet<>();
            for (int p = 0; p < n; p++) {
                found.add(leastWith(to, p));
            }
            return found.size();
        }

        int order(int i) {
            place(i);
            noCircle();
            boolean[] stands = new boolean[n];
            int last = -1;
            for (int k = 0; k <= i; k++) {
                last = -1;
                for (int p = n - 1; p >= 0; p--) {
                    boolean free = !stands[p];
                    for (int q = 0; q < n; q++) {
                        free &= !way[q][p] || stands[q];
                    }
                    last = free ? p : last;
                }
                stands[last] = true;
            }
            return last;
        }

        /** The greatest number of ways for which there is still a path that ends at a. */
        int level(int a) {
            place(a);
            noCircle();
            boolean[] starts = new boolean[n];
            starts[a] = true;
            for (int ways = 0; ways < n; ways++) {
                boolean[] earlier = new boolean[n];
                boolean any = false;
                for (int p = 0; p < n; p++) {
                    for (int q = 0; q < n; q++) {
                        earlier[p] |= way[p][q] && starts[q];
                    }
                    any |= earlier[p];
                }
                if (!any) {
                    return ways;
                }
                starts = earlier;
            }
            throw new AssertionError();
        }

        /** Paths by their number of ways, summed up. */
        int paths(int a, int b) {
            place(a, b);
            noCircle();
            long[] at = new long[n];
            at[a] = 1;
            long sum = 0;
            for (int ways = 0; ways < n; ways++) {
                sum += at[b];
                long[] then = new long[n];
                for (int p = 0; p < n; p++) {
                    for (int q = 0; q < n; q++) {
                        then[q] = way[p][q] ? (then[q] + at[p]) % 1000003 : then[q];
                    }
                }
                at = then;
            }
            return (int) (sum % 1000003);
        }

        private boolean onAll(int a, int b, int c) {
            return c == b || !ends(a, c)[b];
        }

        /** The gate before which all the others stand: each other one is on all paths to it. */
        int gate(int a, int b) {
            place(a, b);
            if (a == b || !ends(a, -1)[b]) {
                return -1;
            }
            List<Integer> gates = new ArrayList<>();
            for (int c = 0; c < n; c++) {
                if (c != b && onAll(a, b, c)) {
                    gates.add(c);
                }
            }
            for (int c : gates) {
                boolean last = true;
                for (int d : gates) {
                    last &= onAll(a, c, d);
                }
                if (last) {
                    return c;
                }
            }
            throw new AssertionError();
        }

        boolean all(int a, int b, int c) {
            place(a, b, c);
            return onAll(a, b, c);
        }

        int count(int what) {
            boolean[][] to = closure();
            int ways = 0;
            int without = 0;
            int circling = 0;
            for (int q = 0; q < n; q++) {
                int here = 0;
                for (int p = 0; p < n; p++) {
                    here += way[p][q] ? 1 : 0;
                }
                ways += here;
                without += here == 0 ? 1 : 0;
                circling += to[q][q] ? 1 : 0;
            }
            return what == 0 ? n : what == 1 ? ways : what == 2 ? without : what == 3 ? circling : -1;
        }
    }

    private static int below(int bound) {
        seed = seed * 6364136223846793005L + 1442695040888963407L;
        return (int) ((seed >>> 33) % bound);
    }

    private static Object ofProgram(OrderBench x, int call, int a, int b, int c) {
        switch (call) {
            case 0: return x.places(a);
            case 1: return x.way(a, b);
            case 2: return x.drop(a, b);
            case 3: return x.reaches(a, b);
            case 4: return x.far(a, b);
            case 5: return x.circle();
            case 6: return x.group(a);
            case 7: return x.groups();
            case 8: return x.order(a);
            case 9: return x.level(a);
            case 10: return x.paths(a, b);
            case 11: return x.gate(a, b);
            case 12: return x.all(a, b, c);
            default: return x.count(a);
        }
    }

    private static Object ofModel(Model x, int call, int a, int b, int c) {
        switch (call) {
            case 0: return x.places(a);
            case 1: return x.set(a, b, true);
            case 2: return x.set(a, b, false);
            case 3: return x.reaches(a, b);
            case 4: return x.far(a, b);
            case 5: return x.circle();
            case 6: return x.group(a);
            case 7: return x.groups();
            case 8: return x.order(a);
            case 9: return x.level(a);
            case 10: return x.paths(a, b);
            case 11: return x.gate(a, b);
            case 12: return x.all(a, b, c);
            default: return x.count(a);
        }
    }

    private static void compare(int run, OrderBench x, Model m, int call, int a, int b, int c) {
        Object got;
        Object want;
        try {
            got = ofProgram(x, call, a, b, c);
        } catch (RuntimeException e) {
            got = e.getClass();
        }
        try {
            want = ofModel(m, call, a, b, c);
        } catch (RuntimeException e) {
            want = e.getClass();
        }
        if (!got.equals(want)) {
            wrong++;
            System.out.println("run " + run + ": " + NAMES[call] + " of " + a + " " + b + " " + c
                + " answered " + got + ", due is " + want);
        }
    }

    /** Mostly a place, now and then one just outside. */
    private static int someplace(int n) {
        return below(40) == 0 ? (below(2) == 0 ? -1 : n) : below(n);
    }

    /** Ways that lead upward under a hidden shuffle make no circle; forward says how rarely one leads back. */
    private static void run(int run, int n, int forward, int share) {
        OrderBench x = new OrderBench();
        Model m = new Model();
        compare(run, x, m, 0, n, 0, 0);
        int[] shuffle = new int[n];
        for (int p = 0; p < n; p++) {
            int q = below(p + 1);
            shuffle[p] = shuffle[q];
            shuffle[q] = p;
        }
        for (int k = 1; k < CALLS; k++) {
            int a = someplace(n);
            int b = someplace(n);
            if (k * 100 < CALLS * share || below(4) == 0) {
                int p = below(n);
                int q = below(3) == 0 ? below(n) : Math.min(n - 1, p + 1 + below(3));
                if (below(forward) != 0) {
                    int low = Math.min(p, q);
                    q = Math.max(p, q);
                    p = low;
                    if (p == q) {
                        continue;
                    }
                }
                compare(run, x, m, below(8) == 0 ? 2 : 1, shuffle[p], shuffle[q], 0);
            } else if (below(300) == 0) {
                compare(run, x, m, 0, below(2) == 0 ? n : 0, 0, 0);
            } else {
                int call = 3 + below(11);
                compare(run, x, m, call, call == 13 ? below(6) - 1 : a, b, someplace(n));
            }
        }
    }

    /** Every bench of up to three places, and every question with every place and the numbers on both sides of them. */
    private static void everySmallBench() {
        for (int n = 1; n <= 3; n++) {
            for (int ways = 0; ways < 1 << n * n; ways++) {
                OrderBench x = new OrderBench();
                Model m = new Model();
                compare(-n, x, m, 0, n, 0, 0);
                for (int pair = 0; pair < n * n; pair++) {
                    if ((ways >> pair & 1) == 1) {
                        compare(-n, x, m, 1, pair / n, pair % n, 0);
                    }
                }
                askAll(x, m, n);
            }
        }
    }

    private static void askAll(OrderBench x, Model m, int n) {
        for (int call = 3; call < NAMES.length; call++) {
            int last = call == 13 ? 4 : n;
            for (int a = -1; a <= (TAKES[call] > 0 ? last : -1); a++) {
                for (int b = -1; b <= (TAKES[call] > 1 ? n : -1); b++) {
                    for (int c = -1; c <= (TAKES[call] > 2 ? n : -1); c++) {
                        compare(-n, x, m, call, a, b, c);
                    }
                }
            }
        }
    }

    public static void main(String[] args) {
        everySmallBench();
        int[] sizes = {1, 2, 3, 4, 5, 6, 8, 10, 20, 40, 63, 64, 65, 100, 119, 120};
        int run = 0;
        for (int round = 0; round < 4; round++) {
            for (int n : sizes) {
                run(++run, n, 1000000, 40);
                run(++run, n, 60, 20);
                run(++run, n, 4, 50);
            }
        }
        System.out.println(run + " runs, " + wrong + " wrong");
        if (wrong != 0) {
            System.exit(1);
        }
    }
}
