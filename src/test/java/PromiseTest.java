import java.util.NoSuchElementException;

/** For each promise: ordinary inputs, the edges that the document names, and wrong inputs. */
public final class PromiseTest {
    private static final int[] NO_PLACES_OF_TEN = {
        -1, 10, 64, 119, 120, 128, -64, Integer.MIN_VALUE, Integer.MAX_VALUE};

    private static int checks = 0;
    private static int wrong = 0;

    private interface Call {
        Object answer();
    }

    private static void due(String what, Object want, Call call) {
        Object got;
        try {
            got = call.answer();
        } catch (RuntimeException e) {
            got = e.getClass();
        }
        checks++;
        if (!want.equals(got)) {
            wrong++;
            System.out.println(what + " answered " + got + ", due is " + want);
        }
    }

    private static void dueNoSuch(String what, Call call) {
        due(what, NoSuchElementException.class, call);
    }

    private static void dueState(String what, Call call) {
        due(what, IllegalStateException.class, call);
    }

    /** Ways are written as pairs: from, to, from, to. */
    private static OrderBench bench(int n, int... ends) {
        OrderBench x = new OrderBench();
        x.places(n);
        for (int k = 0; k + 1 < ends.length; k += 2) {
            x.way(ends[k], ends[k + 1]);
        }
        return x;
    }

    private static void dueOrder(String what, OrderBench x, int... want) {
        for (int i = 0; i < want.length; i++) {
            int at = i;
            due(what + ": order(" + i + ")", want[i], () -> x.order(at));
        }
        dueNoSuch(what + ": order behind the last", () -> x.order(want.length));
    }

    private static void newObject() {
        OrderBench x = new OrderBench();
        due("new count(0)", 10, () -> x.count(0));
        due("new count(1)", 0, () -> x.count(1));
        due("new count(2)", 10, () -> x.count(2));
        due("new count(3)", 0, () -> x.count(3));
        due("new circle", -1, x::circle);
        due("new groups", 10, x::groups);
        dueOrder("new", x, 0, 1, 2, 3, 4, 5, 6, 7, 8, 9);
        due("new way(9, 9)", false, () -> x.way(9, 9));
        dueNoSuch("new way(10, 0)", () -> x.way(10, 0));
        OrderBench y = new OrderBench();
        due("another object has none of its ways", 0, () -> y.count(1));
    }

    private static void places() {
        OrderBench x = bench(10, 0, 1, 1, 2);
        for (int n : new int[] {0, -1, 121, 128, Integer.MIN_VALUE, Integer.MAX_VALUE}) {
            due("places(" + n + ")", IllegalArgumentException.class, () -> x.places(n));
        }
        due("N behind a refused places", 10, () -> x.count(0));
        due("ways behind a refused places", 2, () -> x.count(1));
        due("places(120)", 10, () -> x.places(120));
        due("N is 120", 120, () -> x.count(0));
        due("ways are gone", 0, () -> x.count(1));
        due("ways to are gone", 120, () -> x.count(2));
        due("way(119, 0)", false, () -> x.way(119, 0));
        due("way(0, 119)", false, () -> x.way(0, 119));
        dueNoSuch("way(120, 0)", () -> x.way(120, 0));
        due("places(1)", 120, () -> x.places(1));
        due("places(1) again", 1, () -> x.places(1));
        dueNoSuch("way(0, 1) of one place", () -> x.way(0, 1));
        due("way(0, 0) of one place", false, () -> x.way(0, 0));
        due("the same n drops the ways, too", 1, () -> x.places(1));
        due("way(0, 0) is gone", 0, () -> x.count(1));
        due("back to 120", 1, () -> x.places(120));
        due("way(119, 0) is gone", false, () -> x.drop(119, 0));
        due("no circle of old ways", -1, x::circle);
    }

    private static void wayAndDrop() {
        OrderBench x = new OrderBench();
        due("way(3, 4)", false, () -> x.way(3, 4));
        due("way(3, 4) again", true, () -> x.way(3, 4));
        due("a way counts once", 1, () -> x.count(1));
        due("way(4, 3) is another", false, () -> x.way(4, 3));
        due("drop(3, 4)", true, () -> x.drop(3, 4));
        due("drop(3, 4) again", false, () -> x.drop(3, 4));
        due("way(4, 3) is left", true, () -> x.reaches(4, 3));
        due("way(3, 4) is not", false, () -> x.reaches(3, 4));
        due("way to itself", false, () -> x.way(5, 5));
        due("way to itself again", true, () -> x.way(5, 5));
        due("drop of a way to itself", true, () -> x.drop(5, 5));
        due("drop of a way to itself again", false, () -> x.drop(5, 5));
        due("drop of what never was", false, () -> x.drop(0, 9));
        for (int p : NO_PLACES_OF_TEN) {
            dueNoSuch("way(" + p + ", 0)", () -> x.way(p, 0));
            dueNoSuch("way(0, " + p + ")", () -> x.way(0, p));
            dueNoSuch("drop(" + p + ", 0)", () -> x.drop(p, 0));
            dueNoSuch("drop(0, " + p + ")", () -> x.drop(0, p));
        }
        due("nothing changed", 1, () -> x.count(1));
        due("nothing changed in what has no way to it", 9, () -> x.count(2));
    }

    private static void dropUndoesAllThatAWayDid() {
        OrderBench x = bench(10, 0, 1, 1, 0);
        x.drop(1, 0);
        due("dropped: circle", -1, x::circle);
        due("dropped: group(1)", 1, () -> x.group(1));
        due("dropped: groups", 10, x::groups);
        due("dropped: count(2)", 9, () -> x.count(2));
        due("dropped: order(0)", 0, () -> x.order(0));
        due("dropped: paths(1, 0)", 0, () -> x.paths(1, 0));
    }

    private static void reachesAndFar() {
        OrderBench x = bench(10, 0, 1, 1, 2, 2, 3, 0, 4, 4, 3, 3, 0, 6, 6, 7, 8);
        due("reaches(0, 3)", true, () -> x.reaches(0, 3));
        due("reaches(3, 2)", true, () -> x.reaches(3, 2));
        due("reaches(0, 5)", false, () -> x.reaches(0, 5));
        due("reaches(8, 7)", false, () -> x.reaches(8, 7));
        due("reaches(5, 5)", true, () -> x.reaches(5, 5));
        due("reaches(6, 6)", true, () -> x.reaches(6, 6));
        due("far(0, 3)", 2, () -> x.far(0, 3));
        due("far(0, 2)", 2, () -> x.far(0, 2));
        due("far(3, 2)", 3, () -> x.far(3, 2));
        due("far(0, 0)", 0, () -> x.far(0, 0));
        due("far(6, 6)", 0, () -> x.far(6, 6));
        due("far(7, 8)", 1, () -> x.far(7, 8));
        due("far(8, 7)", -1, () -> x.far(8, 7));
        for (int p : NO_PLACES_OF_TEN) {
            dueNoSuch("reaches(" + p + ", 0)", () -> x.reaches(p, 0));
            dueNoSuch("reaches(0, " + p + ")", () -> x.reaches(0, p));
            dueNoSuch("reaches(" + p + ", itself)", () -> x.reaches(p, p));
            dueNoSuch("far(" + p + ", 0)", () -> x.far(p, 0));
            dueNoSuch("far(0, " + p + ")", () -> x.far(0, p));
            dueNoSuch("far(" + p + ", itself)", () -> x.far(p, p));
        }
    }

    private static void circle() {
        OrderBench x = bench(10, 0, 1, 1, 2, 8, 8);
        due("circle of a way to itself", 8, x::circle);
        x.way(7, 3);
        x.way(3, 7);
        due("circle of two", 3, x::circle);
        x.way(2, 1);
        due("0 leads to a circle but is on none", 1, x::circle);
        x.way(2, 0);
        due("circle of three", 0, x::circle);
        due("count(3)", 6, () -> x.count(3));
        OrderBench y = bench(10, 5, 1, 1, 2, 5, 2, 2, 9);
        due("two paths to a place are no circle", -1, y::circle);
    }

    private static void groups() {
        OrderBench x = bench(10, 9, 4, 4, 7, 7, 9, 7, 1, 0, 4, 2, 2);
        due("group(9)", 4, () -> x.group(9));
        due("group(7)", 4, () -> x.group(7));
        due("group(4)", 4, () -> x.group(4));
        due("group(1): reached, but leads to none", 1, () -> x.group(1));
        due("group(0): leads there, but is not reached", 0, () -> x.group(0));
        due("group(2)", 2, () -> x.group(2));
        due("group(5)", 5, () -> x.group(5));
        due("groups", 8, x::groups);
        x.way(1, 0);
        due("group(9) behind way(1, 0)", 0, () -> x.group(9));
        due("groups behind way(1, 0)", 6, x::groups);
        for (int p : NO_PLACES_OF_TEN) {
            dueNoSuch("group(" + p + ")", () -> x.group(p));
        }
        OrderBench one = bench(1);
        due("groups of one place", 1, one::groups);
    }

    private static void order() {
        dueOrder("one place", bench(1), 0);
        dueOrder("turned round", bench(4, 3, 2, 2, 1, 1, 0), 3, 2, 1, 0);
        dueOrder("the least first", bench(5, 4, 0, 2, 1), 2, 1, 3, 4, 0);
        dueOrder("a place that comes free goes before greater ones", bench(6, 3, 0, 5, 1, 0, 4), 2, 3, 0, 4, 5, 1);
        dueOrder("behind all that lead to it", bench(4, 1, 0, 3, 0), 1, 2, 3, 0);
        OrderBench x = bench(10, 8, 9);
        for (int p : NO_PLACES_OF_TEN) {
            dueNoSuch("order(" + p + ")", () -> x.order(p));
        }
        x.way(9, 8);
        for (int i = 0; i < 10; i++) {
            int at = i;
            dueState("order(" + i + ") with a circle", () -> x.order(at));
        }
        dueNoSuch("no such i comes before the circle", () -> x.order(10));
        dueNoSuch("no such i comes before the circle", () -> x.order(-1));
        due("ways behind the exceptions", 2, () -> x.count(1));
        x.drop(9, 8);
        x.way(3, 3);
        dueState("order(0) with a way to itself", () -> x.order(0));
        x.drop(3, 3);
        due("order(0) without a circle again", 0, () -> x.order(0));
    }

    private static void level() {
        OrderBench x = bench(10, 0, 5, 5, 3, 3, 1, 0, 1, 7, 1, 1, 2, 8, 7);
        due("level(0)", 0, () -> x.level(0));
        due("level(5)", 1, () -> x.level(5));
        due("level(3)", 2, () -> x.level(3));
        due("level(1)", 3, () -> x.level(1));
        due("level(2)", 4, () -> x.level(2));
        due("level(7)", 1, () -> x.level(7));
        due("level(9)", 0, () -> x.level(9));
        x.way(9, 9);
        dueState("level(0) with a circle elsewhere", () -> x.level(0));
        for (int p : NO_PLACES_OF_TEN) {
            dueNoSuch("level(" + p + ")", () -> x.level(p));
        }
    }

    private static void paths() {
        OrderBench x = bench(10, 0, 1, 0, 2, 1, 3, 2, 3, 0, 3, 3, 4);
        due("paths(0, 3)", 3, () -> x.paths(0, 3));
        due("paths(0, 4)", 3, () -> x.paths(0, 4));
        due("paths(1, 4)", 1, () -> x.paths(1, 4));
        due("paths(4, 0)", 0, () -> x.paths(4, 0));
        due("paths(5, 5)", 1, () -> x.paths(5, 5));
        due("paths(3, 3)", 1, () -> x.paths(3, 3));
        x.way(8, 9);
        x.way(9, 8);
        dueState("paths(0, 3) with a circle elsewhere", () -> x.paths(0, 3));
        dueState("paths(5, 5) with a circle elsewhere", () -> x.paths(5, 5));
        for (int p : NO_PLACES_OF_TEN) {
            dueNoSuch("paths(" + p + ", 0)", () -> x.paths(p, 0));
            dueNoSuch("paths(0, " + p + ")", () -> x.paths(0, p));
        }
    }

    /** Each place leads to the next one over two places between: every step doubles the paths. */
    private static void pathsModulo() {
        OrderBench x = bench(120);
        for (int p = 0; p + 3 < 120; p += 3) {
            x.way(p, p + 1);
            x.way(p, p + 2);
            x.way(p + 1, p + 3);
            x.way(p + 2, p + 3);
        }
        due("2 to the 19th", 524288, () -> x.paths(0, 57));
        due("2 to the 20th, modulo", 48573, () -> x.paths(0, 60));
        due("2 to the 39th, modulo", (int) ((1L << 39) % 1000003), () -> x.paths(0, 117));
        due("far over 39 steps", 78, () -> x.far(0, 117));
        due("level over 39 steps", 78, () -> x.level(117));
        due("gate over 39 steps", 114, () -> x.gate(0, 117));
    }

    private static void gate() {
        OrderBench x = bench(10, 0, 1, 1, 2, 1, 3, 2, 4, 3, 4, 4, 5, 0, 6);
        due("gate(0, 0)", -1, () -> x.gate(0, 0));
        due("gate(0, 1): the first place itself", 0, () -> x.gate(0, 1));
        due("gate(0, 2)", 1, () -> x.gate(0, 2));
        due("gate(0, 4)", 1, () -> x.gate(0, 4));
        due("gate(0, 5)", 4, () -> x.gate(0, 5));
        due("gate(2, 5)", 4, () -> x.gate(2, 5));
        due("gate(0, 9): not reached", -1, () -> x.gate(0, 9));
        due("gate(5, 0): not reached", -1, () -> x.gate(5, 0));
        x.way(5, 1);
        x.way(4, 0);
        x.way(2, 2);
        due("circles change nothing", 4, () -> x.gate(0, 5));
        due("a circle back to itself is no gate", -1, () -> x.gate(0, 0));
        x.way(6, 4);
        due("a way round", 0, () -> x.gate(0, 4));
        due("behind the way round", 4, () -> x.gate(0, 5));
        OrderBench y = bench(10, 9, 3, 3, 7, 7, 1, 1, 0);
        due("the last, not the least or greatest", 7, () -> y.gate(9, 1));
        due("gate(9, 0)", 1, () -> y.gate(9, 0));
        for (int p : NO_PLACES_OF_TEN) {
            dueNoSuch("gate(" + p + ", 0)", () -> x.gate(p, 0));
            dueNoSuch("gate(0, " + p + ")", () -> x.gate(0, p));
            dueNoSuch("gate(" + p + ", itself)", () -> x.gate(p, p));
        }
    }

    private static void all() {
        OrderBench x = bench(10, 0, 1, 1, 2, 1, 3, 2, 4, 3, 4, 4, 0);
        due("all(0, 4, 1)", true, () -> x.all(0, 4, 1));
        due("all(0, 4, 2)", false, () -> x.all(0, 4, 2));
        due("all(0, 4, 0)", true, () -> x.all(0, 4, 0));
        due("all(0, 4, 4)", true, () -> x.all(0, 4, 4));
        due("all(0, 4, 9): a place that nothing leads to", false, () -> x.all(0, 4, 9));
        due("all(0, 9, 5): can't be reached", true, () -> x.all(0, 9, 5));
        due("all(0, 9, 9): can't be reached", true, () -> x.all(0, 9, 9));
        due("all(0, 0, 0)", true, () -> x.all(0, 0, 0));
        due("all(0, 0, 1): the path of one place alone", false, () -> x.all(0, 0, 1));
        for (int p : NO_PLACES_OF_TEN) {
            dueNoSuch("all(" + p + ", 0, 0)", () -> x.all(p, 0, 0));
            dueNoSuch("all(0, " + p + ", 0)", () -> x.all(0, p, 0));
            dueNoSuch("all(0, 0, " + p + ")", () -> x.all(0, 0, p));
            dueNoSuch("all(0, 9, " + p + ")", () -> x.all(0, 9, p));
        }
    }

    private static void count() {
        OrderBench x = bench(12, 0, 1, 1, 2, 2, 1, 5, 5, 6, 0);
        due("count(0)", 12, () -> x.count(0));
        due("count(1)", 5, () -> x.count(1));
        due("count(2): a way to itself is a way to it", 8, () -> x.count(2));
        due("count(3)", 3, () -> x.count(3));
        for (int what : new int[] {-1, 4, 5, 64, Integer.MIN_VALUE, Integer.MAX_VALUE}) {
            due("count(" + what + ")", -1, () -> x.count(what));
        }
    }

    /** All 120 places in one line, then in one circle: both halves of the places and the seam between them. */
    private static void allPlacesInUse() {
        OrderBench x = bench(120);
        for (int p = 119; p > 0; p--) {
            x.way(p, p - 1);
        }
        due("line: far(119, 0)", 119, () -> x.far(119, 0));
        due("line: order(0)", 119, () -> x.order(0));
        due("line: order(119)", 0, () -> x.order(119));
        due("line: level(0)", 119, () -> x.level(0));
        due("line: paths(119, 0)", 1, () -> x.paths(119, 0));
        due("line: gate(119, 63)", 64, () -> x.gate(119, 63));
        due("line: gate(119, 0)", 1, () -> x.gate(119, 0));
        due("line: all(119, 0, 64)", true, () -> x.all(119, 0, 64));
        due("line: groups", 120, x::groups);
        due("line: circle", -1, x::circle);
        due("line: count(2)", 1, () -> x.count(2));
        x.way(0, 119);
        due("ring: groups", 1, x::groups);
        due("ring: group(119)", 0, () -> x.group(119));
        due("ring: circle", 0, x::circle);
        due("ring: count(3)", 120, () -> x.count(3));
        due("ring: far(63, 64)", 119, () -> x.far(63, 64));
        dueState("ring: level(64)", () -> x.level(64));
        x.drop(64, 63);
        due("opened: far(63, 64)", 119, () -> x.far(63, 64));
        due("opened: far(64, 63)", -1, () -> x.far(64, 63));
        due("opened: order(0)", 63, () -> x.order(0));
    }

    public static void main(String[] args) {
        newObject();
        places();
        wayAndDrop();
        dropUndoesAllThatAWayDid();
        reachesAndFar();
        circle();
        groups();
        order();
        level();
        paths();
        pathsModulo();
        gate();
        all();
        count();
        allPlacesInUse();
        System.out.println(checks + " checks, " + wrong + " wrong");
        if (wrong != 0) {
            System.exit(1);
        }
    }
}
