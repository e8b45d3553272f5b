import java.util.ArrayList;
import java.util.Arrays;
import java.util.HashSet;
import java.util.List;
import java.util.NoSuchElementException;
import java.util.Set;

/**
 * Benches of up to four places, for which every PATH is written out: each answer is read off the written paths by the
 * document's own words. Of the ways to itself a bench has none or one; all others it has in every mix.
 */
public final class PathsTest {
    private static final int MOST_PLACES = 4;
    private static final int MOST_TOLD = 5;
    private static final int PROMISES = 15;

    private static final int[] checks = new int[PROMISES + 1];
    private static final int[] wrong = new int[PROMISES + 1];

    /** What is written out of one bench. */
    private static final class Written {
        private final int n;
        private final boolean[][] way;
        private final List<List<List<int[]>>> paths = new ArrayList<>();

        Written(int n, boolean[][] way) {
            this.n = n;
            this.way = way;
            for (int a = 0; a < n; a++) {
                List<List<int[]>> from = new ArrayList<>();
                for (int b = 0; b < n; b++) {
                    from.add(new ArrayList<>());
                }
                paths.add(from);
                extend(new int[] {a});
            }
        }

        /** A path that comes to a place twice has a shorter one within it, over no other places: it is left out. */
        private void extend(int[] path) {
            int end = path[path.length - 1];
            paths.get(path[0]).get(end).add(path);
            for (int q = 0; q < n; q++) {
                if (way[end][q] && !has(path, q)) {
                    int[] longer = Arrays.copyOf(path, path.length + 1);
                    longer[path.length] = q;
                    extend(longer);
                }
            }
        }

        private static boolean has(int[] path, int p) {
            for (int q : path) {
                if (q == p) {
                    return true;
                }
            }
            return false;
        }

        List<int[]> from(int a, int b) {
            return paths.get(a).get(b);
        }

        boolean reaches(int a, int b) {
            return !from(a, b).isEmpty();
        }

        int far(int a, int b) {
            int least = -1;
            for (int[] path : from(a, b)) {
                least = least < 0 ? path.length - 1 : Math.min(least, path.length - 1);
            }
            return least;
        }

        boolean isOnCircle(int p) {
            for (int q = 0; q < n; q++) {
                if (way[q][p] && reaches(p, q)) {
                    return true;
                }
            }
            return false;
        }

        int circle() {
            for (int p = 0; p < n; p++) {
                if (isOnCircle(p)) {
                    return p;
                }
            }
            return -1;
        }

        int group(int a) {
            for (int p = 0; p < n; p++) {
                if (reaches(p, a) && reaches(a, p)) {
                    return p;
                }
            }
            throw new AssertionError();
        }

        int groups() {
            Set<Integer> different = new HashSet<>();
            for (int p = 0; p < n; p++) {
                different.add(group(p));
            }
            return different.size();
        }

        int level(int a) {
            int greatest = 0;
            for (int p = 0; p < n; p++) {
                for (int[] path : from(p, a)) {
                    greatest = Math.max(greatest, path.length - 1);
                }
            }
            return greatest;
        }

        boolean all(int a, int b, int c) {
            for (int[] path : from(a, b)) {
                if (!has(path, c)) {
                    return false;
                }
            }
            return true;
        }

        int gate(int a, int b) {
            int last = -1;
            for (int[] path : from(a, b)) {
                int here = -1;
                for (int p : path) {
                    here = p != b && all(a, b, p) ? p : here;
                }
                if (last != -1 && last != here) {
                    throw new AssertionError("the gates stand in one order on all paths");
                }
                last = here;
            }
            return last;
        }

        /** All rows of the places come from the least up, so the first that fits is THE ORDER; null: none fits. */
        int[] order() {
            return orderFrom(new int[0]);
        }

        private int[] orderFrom(int[] begun) {
            if (begun.length == n) {
                return fits(begun) ? begun : null;
            }
            for (int p = 0; p < n; p++) {
                if (!has(begun, p)) {
                    int[] longer = Arrays.copyOf(begun, begun.length + 1);
                    longer[begun.length] = p;
                    int[] found = orderFrom(longer);
                    if (found != null) {
                        return found;
                    }
                }
            }
            return null;
        }

        private boolean fits(int[] row) {
            for (int i = 0; i < n; i++) {
                for (int later = i; later < n; later++) {
                    if (way[row[later]][row[i]]) {
                        return false;
                    }
                }
            }
            return true;
        }

        int count(int what) {
            int ways = 0;
            int without = 0;
            int circling = 0;
            for (int q = 0; q < n; q++) {
                int to = 0;
                for (int p = 0; p < n; p++) {
                    to += way[p][q] ? 1 : 0;
                }
                ways += to;
                without += to == 0 ? 1 : 0;
                circling += isOnCircle(q) ? 1 : 0;
            }
            return new int[] {n, ways, without, circling}[what];
        }
    }

    private static Object answer(OrderBench x, int promise, int a, int b, int c) {
        try {
            switch (promise) {
                case 5: return x.reaches(a, b);
                case 6: return x.far(a, b);
                case 7: return x.circle();
                case 8: return x.group(a);
                case 9: return x.groups();
                case 10: return x.order(a);
                case 11: return x.level(a);
                case 12: return x.paths(a, b);
                case 13: return x.gate(a, b);
                case 14: return x.all(a, b, c);
                case 15: return x.count(a);
                default: throw new AssertionError(promise);
            }
        } catch (RuntimeException e) {
            return e.getClass();
        }
    }

    private static void due(Written w, OrderBench x, Object want, int promise, int a, int b, int c) {
        Object got = answer(x, promise, a, b, c);
        checks[promise]++;
        if (!want.equals(got)) {
            wrong[promise]++;
            if (wrong[promise] <= MOST_TOLD) {
                System.out.println("promise " + promise + " with " + a + " " + b + " " + c + " and the ways "
                    + Arrays.deepToString(w.way) + " answered " + got + ", due is " + want);
            }
        }
    }

    private static OrderBench made(Written w) {
        OrderBench x = new OrderBench();
        x.places(w.n);
        for (int a = 0; a < w.n; a++) {
            for (int b = 0; b < w.n; b++) {
                if (w.way[a][b]) {
                    x.way(a, b);
                }
            }
        }
        return x;
    }

    private static void ask(Written w) {
        OrderBench x = made(w);
        due(w, x, w.circle(), 7, 0, 0, 0);
        due(w, x, w.groups(), 9, 0, 0, 0);
        for (int what = 0; what < 4; what++) {
            due(w, x, w.count(what), 15, what, 0, 0);
        }
        int[] order = w.order();
        for (int a = 0; a < w.n; a++) {
            due(w, x, w.group(a), 8, a, 0, 0);
            due(w, x, order == null ? IllegalStateException.class : order[a], 10, a, 0, 0);
            due(w, x, order == null ? IllegalStateException.class : w.level(a), 11, a, 0, 0);
            for (int b = 0; b < w.n; b++) {
                askOfTwo(w, x, order != null, a, b);
            }
        }
        due(w, x, NoSuchElementException.class, 10, w.n, 0, 0);
    }

    private static void askOfTwo(Written w, OrderBench x, boolean ordered, int a, int b) {
        due(w, x, w.reaches(a, b), 5, a, b, 0);
        due(w, x, w.far(a, b), 6, a, b, 0);
        due(w, x, ordered ? w.from(a, b).size() : IllegalStateException.class, 12, a, b, 0);
        due(w, x, w.gate(a, b), 13, a, b, 0);
        for (int c = 0; c < w.n; c++) {
            due(w, x, w.all(a, b, c), 14, a, b, c);
        }
    }

    private static void everyMix(int n) {
        int pairs = n * (n - 1);
        for (int mix = 0; mix < 1 << pairs; mix++) {
            for (int self = -1; self < n; self++) {
                boolean[][] way = new boolean[n][n];
                int bit = 0;
                for (int a = 0; a < n; a++) {
                    for (int b = 0; b < n; b++) {
                        way[a][b] = a == b ? a == self : (mix >> bit++ & 1) == 1;
                    }
                }
                ask(new Written(n, way));
            }
        }
    }

    public static void main(String[] args) {
        for (int n = 1; n <= MOST_PLACES; n++) {
            everyMix(n);
        }
        System.out.println(Arrays.stream(checks).sum() + " checks, " + Arrays.stream(wrong).sum() + " wrong");
        if (Arrays.stream(wrong).sum() != 0) {
            System.exit(1);
        }
    }
}
