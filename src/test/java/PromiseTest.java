/** For each promise of the document: ordinary inputs, the edges it names, and wrong inputs. */
public final class PromiseTest {
    private static final int NONE = -1, UNKNOWN = -1000000001, OUTSIDE = -1000000002, NOT = -1000000003, FULL = -1000000004;
    private static final int LEAST = Integer.MIN_VALUE, MOST = Integer.MAX_VALUE;
    private static int promise = 0;
    private static int wrong = 0;

    private static void due(String call, int got, int want) {
        if (got != want) {
            wrong++;
            System.out.println("promise " + promise + ": " + call + " answered " + got + ", due is " + want);
        }
    }

    private static void told(Counted x, int from, int... want) {
        for (int i = 0; i < want.length; i++) due("told(" + (from + i) + ")", x.told(from + i), want[i]);
    }

    private static void order(Counted x, int... want) {
        for (int i = 0; i < want.length; i++) due("best(" + i + ")", x.best(i), want[i]);
        due("best(" + want.length + ")", x.best(want.length), NONE);
    }

    /** All of section 1 and what is told of it, in one line. */
    private static String all(Counted x) {
        StringBuilder s = new StringBuilder();
        for (int i = 0; i < 20; i++) s.append(x.told(i)).append(' ');
        for (int c = 0; c < 9; c++) s.append(x.cell(c, 0)).append('/').append(x.cell(c, 1)).append('/').append(x.cell(c, 2)).append(' ');
        for (int k = 0; k < 9; k++) s.append(x.truckAt(k, 0)).append('/').append(x.truckAt(k, 1)).append(' ');
        return s.toString();
    }

    private static void unchanged(Counted x, String before) {
        String now = all(x);
        if (!now.equals(before)) {
            wrong++;
            System.out.println("promise " + promise + ": what is refused or asked changed " + before + " to " + now);
        }
    }

    /** One STRIP of two LAYERS, and TRUCKS with a LOAD each at these TIMES. */
    private static Counted pair(int... times) {
        Counted x = new Counted();
        x.build(1, 2);
        for (int t : times) x.truck(t, 1);
        return x;
    }

    private static Counted wall(int strips, int layers) {
        Counted x = new Counted();
        x.build(strips, layers);
        return x;
    }

    private static void newObject() {
        Counted x = new Counted();
        told(x, 0, 3, 2, 0, 0, 0, 0, 0, 6, 3, 1, 0, 0, NONE, NONE, NONE, NONE, 0, 0, NONE, 0);
        for (int c = 0; c < 6; c++) {
            due("cell(c, 0)", x.cell(c, 0), 1);
            due("cell(c, 1)", x.cell(c, 1), NONE);
            due("cell(c, 2)", x.cell(c, 2), NONE);
        }
        due("cell(6, 0)", x.cell(6, 0), UNKNOWN);
        due("seed(0)", x.seed(0), 0);
        due("undo(1)", x.undo(1), NOT);
        due("goBack(0)", x.goBack(0), NOT);
        due("goBack(1)", x.goBack(1), NOT);
        due("NONE", PourPlan.NONE, NONE);
        due("UNKNOWN", PourPlan.UNKNOWN, UNKNOWN);
        due("OUTSIDE", PourPlan.OUTSIDE, OUTSIDE);
        due("NOT", PourPlan.NOT, NOT);
        due("FULL", PourPlan.FULL, FULL);
    }

    private static void toldOfAll() {
        Counted x = pair(0, 10);
        for (int what : new int[] {-1, 20, LEAST, MOST}) due("told(" + what + ")", x.told(what), OUTSIDE);
        // the second CELL begins 9 after the first is done; WAITED 3 or more it would begin in time: other HARM
        told(x, 0, 1, 2, 0, 2, 1, 0, 1, 6, 3, 1, 0, 0, NONE, 3, 11, 2, 0, 0, NONE, 3);
        x.pour(0);
        told(x, 2, 1, 2, 0, 1, 2);
        told(x, 10, 0, 0, 0, 3, 11, 12, 3);
        x.rest(6);
        told(x, 10, 0, 0, 0);
        x.rest(1);
        told(x, 10, 1, 3, NONE, 3, 11, 12, 3);
        x.pour(1);
        told(x, 2, 11, 2, 0, 3, 0);
        told(x, 10, 1, 3, NONE, 3, 11, 12, 3);
        told(x, 19, 7);
        firstOfLike();
        bestOfLike();
        bestByAge();
        bestWithJoints();
        bestOfTheMost();
    }

    /** A side that is covered when it is just AGE old does no HARM, on either hand. */
    private static void bestByAge() {
        for (int first = 0; first < 2; first++) {
            Counted x = wall(2, 1);
            x.truck(0, 1);
            x.truck(7, 1);
            told(x, 13, 0, 8, 12);
            x.pour(first);
            told(x, 13, 0, 8, 6);
            x.late(1, 1);
            told(x, 13, 1, 9, 12);
            due("truckAt(1, 2)", x.truckAt(1, 2), 12);
        }
    }

    /** A JOINT that is covered by now and one that is OPEN are in the HARM of BEST. */
    private static void bestWithJoints() {
        Counted x = wall(2, 2);
        x.truck(0, 4);
        x.pour(0);
        x.rest(7);
        told(x, 10, 2, 4, NONE, 4, 11);
        x.pour(1);
        told(x, 10, 2, 4, 3, 4, 11);
        x.pour(3);
        told(x, 10, 2, 4, 11, 4, 11);
        x.pour(2);
        told(x, 10, 2, 4, NONE, 4, 11);
    }

    /** All nine CELLS need the most, and no LOAD is over. */
    private static void bestOfTheMost() {
        Counted x = wall(3, 3);
        for (int c = 0; c < 9; c++) x.need(c, 3);
        for (int k = 0; k < 6; k++) x.truck(0, 4);
        x.truck(0, 2);
        told(x, 13, NONE, NONE, NONE);
        x.truck(90, 1);
        // eight CELLS are DONE at 24, and the last begins at 90: HARM 3 and 1, if it is in a corner above
        told(x, 13, 4, 93);
    }

    private static void firstOfLike() {
        Counted x = wall(3, 2);
        x.truck(0, 4);
        x.pour(1);
        // the top and both sides of CELL 1 have like LEFT: the least number
        told(x, 12, 3);
        x.pour(4);
        told(x, 12, 4);
        x.pour(2);
        told(x, 12, 5);
        x.pour(0);
        // left: the sides of 4 (DONE 2), the tops of 2 (3) and 0 (4); the least LEFT is that of 4
        told(x, 12, 13);
    }

    private static void bestOfLike() {
        Counted x = wall(2, 1);
        x.truck(0, 1);
        x.truck(5, 3);
        // no ORDER does HARM; CELL 0 first begins at 5 and all ends at 9, CELL 1 first is DONE ahead of it
        x.need(0, 3);
        told(x, 13, 0, 8);
        order(x, 1, 0);
        x.need(0, 1);
        told(x, 13, 0, 6);
        order(x, 0, 1);
    }

    private static void cellOfAll() {
        Counted x = pair(0, 10);
        due("cell(2, 0)", x.cell(2, 0), UNKNOWN);
        due("cell(-1, 0)", x.cell(-1, 0), UNKNOWN);
        due("cell(2, 9)", x.cell(2, 9), UNKNOWN);
        due("cell(0, 5)", x.cell(0, 5), OUTSIDE);
        due("cell(0, -1)", x.cell(0, -1), OUTSIDE);
        due("cell(0, 3)", x.cell(0, 3), 0);
        due("cell(0, 4)", x.cell(0, 4), 0);
        due("cell(1, 3)", x.cell(1, 3), NONE);
        due("cell(1, 4)", x.cell(1, 4), NONE);
        String before = all(x);
        x.cell(0, 4);
        unchanged(x, before);
        x.pour(0);
        due("cell(0, 1)", x.cell(0, 1), 0);
        due("cell(0, 2)", x.cell(0, 2), 1);
        due("cell(0, 3)", x.cell(0, 3), NONE);
        due("cell(0, 4)", x.cell(0, 4), NONE);
        due("cell(1, 3)", x.cell(1, 3), 10);
        due("cell(1, 4)", x.cell(1, 4), 3);
        x.need(1, 2);
        due("cell(1, 0)", x.cell(1, 0), 2);
        due("cell(1, 3), not enough", x.cell(1, 3), NONE);
        due("cell(1, 4), not enough", x.cell(1, 4), NONE);
        x.truck(4, 1);
        x.rest(20);
        due("cell(1, 3), not before now", x.cell(1, 3), 21);
    }

    private static void harmOfOthersBehindIt() {
        Counted x = wall(2, 2);
        x.truck(0, 4);
        x.bound(0, 1);
        x.need(1, 3);
        x.pour(0);
        // CELL 1 covers the side of 0 in time, but the top of 0 is 3 old when 1 is DONE
        due("cell(1, 4)", x.cell(1, 4), 3);
        due("cell(2, 4)", x.cell(2, 4), 0);
    }

    private static void edgeOfAll() {
        Counted x = wall(2, 2);
        x.truck(0, 4);
        int[] there = {0, 1, 3, 5, 7, 11};
        for (int e = 0; e < 12; e++) {
            boolean is = false;
            for (int t : there) is |= t == e;
            due("edge(" + e + ", 0)", x.edge(e, 0), is ? 0 : UNKNOWN);
        }
        for (int e : new int[] {-1, -3, 12, 27, LEAST, MOST}) due("edge(" + e + ", 0)", x.edge(e, 0), UNKNOWN);
        due("edge(2, 7)", x.edge(2, 7), UNKNOWN);
        due("edge(0, 3)", x.edge(0, 3), OUTSIDE);
        due("edge(0, -1)", x.edge(0, -1), OUTSIDE);
        due("edge(0, 2)", x.edge(0, 2), -1000);
        x.pour(0);
        due("edge(1, 0)", x.edge(1, 0), 1);
        due("edge(1, 1)", x.edge(1, 1), 0);
        due("edge(1, 2)", x.edge(1, 2), 6);
        due("edge(5, 0), its CELL is not there", x.edge(5, 0), 0);
        x.rest(6);
        due("edge(1, 1)", x.edge(1, 1), 0);
        due("edge(1, 2)", x.edge(1, 2), 0);
        x.rest(1);
        due("edge(1, 0)", x.edge(1, 0), 1);
        due("edge(1, 1)", x.edge(1, 1), 1);
        due("edge(1, 2)", x.edge(1, 2), -1000);
        x.pour(1);
        due("edge(1, 0)", x.edge(1, 0), 0);
        due("edge(1, 1)", x.edge(1, 1), 1);
        due("edge(5, 0), covered from the first", x.edge(5, 0), 0);
        due("edge(5, 1), covered from the first", x.edge(5, 1), 0);
        x.bound(0, 7);
        due("edge(1, 1), by another AGE", x.edge(1, 1), 0);
    }

    private static void truckOfAll() {
        Counted x = pair(0, 5);
        due("truckAt(2, 0)", x.truckAt(2, 0), UNKNOWN);
        due("truckAt(-1, 9)", x.truckAt(-1, 9), UNKNOWN);
        due("truckAt(0, 3)", x.truckAt(0, 3), OUTSIDE);
        due("truckAt(0, -1)", x.truckAt(0, -1), OUTSIDE);
        due("truckAt(1, 0)", x.truckAt(1, 0), 5);
        due("truckAt(1, 1)", x.truckAt(1, 1), 1);
        String before = all(x);
        due("truckAt(1, 2)", x.truckAt(1, 2), 2);
        due("truckAt(0, 2)", x.truckAt(0, 2), 12);
        unchanged(x, before);
        x.pour(0);
        due("truckAt(0, 2), or STOCK is below 0", x.truckAt(0, 2), 1);
        x.need(1, 3);
        due("truckAt(0, 2), no BEST", x.truckAt(0, 2), NONE);
        Counted y = wall(1, 1);
        y.truck(95, 2);
        due("truckAt(0, 2), 99 at most", y.truckAt(0, 2), 4);
        y.late(0, 4);
        due("truckAt(0, 2), 99 at most", y.truckAt(0, 2), 0);
    }

    private static void built() {
        Counted x = new Counted();
        x.truck(0, 4);
        x.need(1, 3);
        x.bound(0, 9);
        x.bound(1, 8);
        x.bound(2, 7);
        x.pour(0);
        x.pour(3);
        String before = all(x);
        for (int wrongOne : new int[] {0, 4, -1, LEAST, MOST}) {
            due("build(" + wrongOne + ", 1)", x.build(wrongOne, 1), OUTSIDE);
            due("build(1, " + wrongOne + ")", x.build(1, wrongOne), OUTSIDE);
        }
        unchanged(x, before);
        due("build(3, 3)", x.build(3, 3), 2);
        told(x, 0, 3, 3, 0, 0, 0, 0, 0, 9, 8, 7, 0, 0, NONE);
        for (int c = 0; c < 9; c++) {
            due("cell(c, 0)", x.cell(c, 0), 1);
            due("cell(c, 1)", x.cell(c, 1), NONE);
            due("cell(c, 2)", x.cell(c, 2), NONE);
        }
        due("build(3, 3)", x.build(3, 3), 0);
        due("build(1, 1)", x.build(1, 1), 0);
        due("cell(1, 0)", x.cell(1, 0), UNKNOWN);
        told(x, 19, 10);
    }

    private static void trucks() {
        Counted x = new Counted();
        String before = all(x);
        due("truck(-1, 1)", x.truck(-1, 1), OUTSIDE);
        due("truck(100, 1)", x.truck(100, 1), OUTSIDE);
        due("truck(0, 0)", x.truck(0, 0), OUTSIDE);
        due("truck(0, 5)", x.truck(0, 5), OUTSIDE);
        due("truck(LEAST, MOST)", x.truck(LEAST, MOST), OUTSIDE);
        unchanged(x, before);
        due("truck(99, 4)", x.truck(99, 4), 0);
        due("truck(0, 1)", x.truck(0, 1), 1);
        told(x, 3, 2, 1);
        for (int k = 2; k < 9; k++) due("truck(7, 2)", x.truck(7, 2), k);
        before = all(x);
        due("truck(0, 1), the tenth", x.truck(0, 1), FULL);
        due("truck(100, 1), the tenth", x.truck(100, 1), OUTSIDE);
        unchanged(x, before);
        due("truckAt(0, 0)", x.truckAt(0, 0), 99);
        due("truckAt(0, 1)", x.truckAt(0, 1), 4);
    }

    private static void lateTrucks() {
        Counted x = pair(0, 50);
        String before = all(x);
        due("late(2, 0)", x.late(2, 0), UNKNOWN);
        due("late(2, 100)", x.late(2, 100), UNKNOWN);
        due("late(-1, 1)", x.late(-1, 1), UNKNOWN);
        due("late(0, 100)", x.late(0, 100), OUTSIDE);
        due("late(0, -100)", x.late(0, -100), OUTSIDE);
        due("late(1, 50)", x.late(1, 50), OUTSIDE);
        due("late(1, -51)", x.late(1, -51), OUTSIDE);
        due("late(1, LEAST)", x.late(1, LEAST), OUTSIDE);
        due("late(1, MOST)", x.late(1, MOST), OUTSIDE);
        unchanged(x, before);
        due("late(1, 49)", x.late(1, 49), 99);
        due("late(1, -99)", x.late(1, -99), 0);
        told(x, 4, 2);
        due("late(1, 4)", x.late(1, 4), 4);
        x.pour(0);
        before = all(x);
        due("late(0, 2)", x.late(0, 2), NOT);
        due("late(0, 100), OUTSIDE ahead of NOT", x.late(0, 100), OUTSIDE);
        unchanged(x, before);
        due("late(0, 1)", x.late(0, 1), 1);
        told(x, 4, 0);
        due("late(1, -3)", x.late(1, -3), 1);
        due("late(0, 20), the other is there", x.late(0, 20), 21);
        due("late(0, 0)", x.late(0, 0), 21);
        told(x, 19, 11);
    }

    private static void trucksAway() {
        Counted x = wall(3, 1);
        x.truck(0, 1);
        x.truck(0, 2);
        x.truck(9, 3);
        due("away(3)", x.away(3), UNKNOWN);
        due("away(-1)", x.away(-1), UNKNOWN);
        x.pour(0);
        x.pour(1);
        String before = all(x);
        due("away(1)", x.away(1), NOT);
        unchanged(x, before);
        due("away(0)", x.away(0), 2);
        due("truckAt(0, 1)", x.truckAt(0, 1), 2);
        due("truckAt(1, 0)", x.truckAt(1, 0), 9);
        due("truckAt(2, 0)", x.truckAt(2, 0), UNKNOWN);
        due("away(1)", x.away(1), 1);
        told(x, 13, NONE, NONE, NONE);
        due("away(0)", x.away(0), NOT);
    }

    private static void needs() {
        Counted x = pair(0, 1, 2, 3);
        String before = all(x);
        due("need(2, 1)", x.need(2, 1), UNKNOWN);
        due("need(2, 4)", x.need(2, 4), UNKNOWN);
        due("need(0, 0)", x.need(0, 0), OUTSIDE);
        due("need(0, 4)", x.need(0, 4), OUTSIDE);
        unchanged(x, before);
        due("need(0, 3)", x.need(0, 3), 1);
        due("need(0, 2)", x.need(0, 2), 3);
        due("pour(0)", x.pour(0), 0);
        due("cell(0, 1)", x.cell(0, 1), 1);
        due("cell(0, 2)", x.cell(0, 2), 3);
        before = all(x);
        due("need(0, 1)", x.need(0, 1), NOT);
        due("need(0, 0), OUTSIDE ahead of NOT", x.need(0, 0), OUTSIDE);
        unchanged(x, before);
    }

    private static void bounds() {
        Counted x = pair(0, 4);
        String before = all(x);
        due("bound(3, 1)", x.bound(3, 1), OUTSIDE);
        due("bound(-1, 1)", x.bound(-1, 1), OUTSIDE);
        due("bound(0, 0)", x.bound(0, 0), OUTSIDE);
        due("bound(0, 41)", x.bound(0, 41), OUTSIDE);
        due("bound(1, -1)", x.bound(1, -1), OUTSIDE);
        due("bound(1, 10)", x.bound(1, 10), OUTSIDE);
        due("bound(2, -1)", x.bound(2, -1), OUTSIDE);
        due("bound(2, 10)", x.bound(2, 10), OUTSIDE);
        unchanged(x, before);
        due("bound(0, 40)", x.bound(0, 40), 6);
        due("bound(0, 1)", x.bound(0, 1), 40);
        due("bound(1, 9)", x.bound(1, 9), 3);
        due("bound(2, 9)", x.bound(2, 9), 1);
        told(x, 7, 1, 9, 9);
        told(x, 13, 9);
        due("bound(1, 0)", x.bound(1, 0), 9);
        due("bound(2, 0)", x.bound(2, 0), 9);
        told(x, 13, 0);
    }

    private static void pours() {
        Counted x = wall(2, 2);
        x.truck(3, 2);
        x.truck(20, 1);
        String before = all(x);
        due("pour(4)", x.pour(4), UNKNOWN);
        due("pour(-1)", x.pour(-1), UNKNOWN);
        due("pour(2), nothing below", x.pour(2), NOT);
        unchanged(x, before);
        due("pour(1)", x.pour(1), 0);
        told(x, 2, 4, 2, 1, 2, 9);
        due("pour(1) again", x.pour(1), NOT);
        due("pour(0)", x.pour(0), 0);
        // the top of 1 is covered 16 after it was DONE; the top of 0 is still OPEN, 16 old
        due("pour(3)", x.pour(3), 6);
        told(x, 2, 21, 2, 0, 11, 0);
        before = all(x);
        due("pour(2), not enough comes", x.pour(2), NOT);
        unchanged(x, before);
    }

    private static void rests() {
        Counted x = new Counted();
        String before = all(x);
        due("rest(0)", x.rest(0), OUTSIDE);
        due("rest(41)", x.rest(41), OUTSIDE);
        due("rest(-1)", x.rest(-1), OUTSIDE);
        due("rest(MOST)", x.rest(MOST), OUTSIDE);
        unchanged(x, before);
        for (int i = 1; i < 250; i++) due("rest(40)", x.rest(40), 40 * i);
        due("rest(40), above 9999", x.rest(40), NOT);
        due("rest(39)", x.rest(39), 9999);
        due("rest(1)", x.rest(1), NOT);
        due("rest(41)", x.rest(41), OUTSIDE);
        told(x, 2, 9999);
        told(x, 19, 20);
    }

    private static void follows() {
        Counted x = wall(2, 1);
        due("follow()", x.follow(), NOT);
        x.truck(0, 1);
        due("follow(), not enough for all", x.follow(), NOT);
        x.truck(5, 3);
        x.need(0, 3);
        due("follow()", x.follow(), 1);
        told(x, 2, 1, 2, 0, 2);
        due("follow()", x.follow(), 0);
        told(x, 2, 8);
        String before = all(x);
        due("follow(), nothing is left", x.follow(), NOT);
        unchanged(x, before);
        told(x, 19, 6);
    }

    private static long twinSeed;

    private static int draw(int n) {
        twinSeed = (twinSeed * 1103515245L + 12345L) % 2147483648L;
        return (int) (twinSeed / 65536 % n);
    }

    /** What is drawn is done by calls on a twin; both stand alike then. */
    private static void drifts(int seed, int strips, int layers, int rests) {
        Counted x = wall(strips, layers), twin = wall(strips, layers);
        for (int i = 0; i < rests; i++) due("rest(10)", x.rest(10), twin.rest(10));
        due("seed", x.seed(seed), 0);
        twinSeed = seed;
        due("drift(0)", x.drift(0), OUTSIDE);
        due("drift(21)", x.drift(21), OUTSIDE);
        due("drift(-1)", x.drift(-1), OUTSIDE);
        for (int turn = 0; turn < 2; turn++) {
            for (int i = 0; i < 20; i++) {
                int what = draw(4), c = draw(strips * layers), third = draw(30), fourth = draw(4);
                if (what < 2) twin.truck(twin.told(2) + third, fourth + 1);
                if (what == 2) twin.pour(c);
                if (what == 3) twin.need(c, Math.max(fourth, 1));
            }
            due("drift(20)", x.drift(20), Integer.bitCount(twin.told(5)));
            told(x, 19, 20);
            twin.keep(0);
            x.keep(0);
            unchanged(x, all(twin));
        }
        due("seed", x.seed(0), (int) twinSeed);
        // each of the times is a deed by itself
        x.seed(7);
        x.drift(3);
        told(x, 19, 3);
        x.undo(1);
        told(x, 19, 2);
        Counted y = wall(1, 1);
        y.drift(1);
        due("seed(0) behind four draws", y.seed(0), fourDraws());
    }

    private static int fourDraws() {
        twinSeed = 0;
        for (int i = 0; i < 4; i++) draw(4);
        return (int) twinSeed;
    }

    private interface Deed {
        int on(Counted x);
    }

    /** A fresh object for each step, so that none has more than 512 calls. */
    private static Counted behind(Deed[] deeds, int n) {
        Counted x = pair(0, 4);
        x.keep(0);
        for (int i = 0; i < n; i++) deeds[i].on(x);
        return x;
    }

    private static void undone() {
        Deed[] deeds = {x -> x.need(1, 2), x -> x.truck(4, 3), x -> x.late(1, 2), x -> x.bound(0, 3), x -> x.bound(1, 5),
            x -> x.bound(2, 4), x -> x.pour(0), x -> x.rest(9), x -> x.away(1), x -> x.follow(), x -> x.build(2, 2)};
        for (int n = deeds.length; n >= 0; n--) {
            Counted before = behind(deeds, n);
            due("deeds", before.told(19), n);
            String stood = all(before);
            for (int steps = 1; n + steps <= deeds.length; steps++) {
                Counted x = behind(deeds, n + steps);
                due("undo(" + steps + ")", x.undo(steps), before.told(2));
                unchanged(x, stood);
            }
        }
        due("undo(12)", behind(deeds, deeds.length).undo(12), NOT);
        undoneBounds();
        bestIsOfNow();
    }

    /** All that hangs on BEST, in one line. */
    private static String plan(Counted x) {
        StringBuilder s = new StringBuilder();
        for (int what = 13; what < 16; what++) s.append(x.told(what)).append(' ');
        for (int i = 0; i < 6; i++) s.append(x.best(i)).append(' ');
        s.append(x.stop(0)).append(' ').append(x.stop(1));
        for (int k = 0; k < 3; k++) s.append(' ').append(x.truckAt(k, 2));
        return s.toString();
    }

    /** JOINTS of both kinds, and not enough LOADS until the last TRUCK: every change makes BEST another. */
    private static Counted between() {
        Counted x = wall(2, 2);
        x.truck(0, 4);
        x.keep(0);
        x.truck(3, 2);
        x.truck(9, 2);
        x.pour(1);
        x.need(2, 3);
        x.need(3, 3);
        x.rest(4);
        x.bound(0, 2);
        return x;
    }

    /** What BEST was asked for ahead of a change is not told behind it: as if it had not been asked. */
    private static void bestIsOfNow() {
        Deed[] changes = {x -> x.build(3, 1), x -> x.truck(4, 2), x -> x.late(1, 6), x -> x.away(2), x -> x.need(0, 2),
            x -> x.bound(0, 1), x -> x.bound(1, 9), x -> x.bound(2, 9), x -> x.pour(0), x -> x.rest(4), x -> x.follow(),
            x -> x.drift(6), x -> x.undo(1), x -> x.goBack(0)};
        for (int i = 0; i < changes.length; i++) {
            Counted asked = between(), silent = between();
            String before = plan(asked);
            due("change " + i, changes[i].on(asked), changes[i].on(silent));
            String behind = plan(asked);
            due("BEST behind change " + i + " is another", behind.equals(before) ? 0 : 1, 1);
            due("BEST behind change " + i + " is that of now", behind.equals(plan(silent)) ? 1 : 0, 1);
        }
    }

    private static void undoneBounds() {
        Counted x = new Counted();
        for (int n : new int[] {0, 21, -1, LEAST, MOST}) due("undo(" + n + ")", x.undo(n), OUTSIDE);
        for (int i = 1; i <= 25; i++) x.rest(1);
        told(x, 19, 20);
        due("rest(0), refused: no deed", x.rest(0), OUTSIDE);
        due("undo(3)", x.undo(3), 22);
        due("undo(18)", x.undo(18), NOT);
        told(x, 2, 22);
        due("rest(40)", x.rest(40), 62);
        due("undo(18)", x.undo(18), 5);
        due("undo(1)", x.undo(1), NOT);
        x.seed(99);
        x.write(0, false);
        x.rest(1);
        x.drift(2);
        int seed = x.seed(5);
        due("undo(3)", x.undo(3), 5);
        due("seed(5), it stays", x.seed(seed), 5);
        told(x, 17, 1);
    }

    private static void bests() {
        Counted x = wall(3, 3);
        due("best(0), no BEST", x.best(0), NONE);
        x.bound(0, 4);
        for (int k = 0; k < 9; k++) x.truck(2 * k, 1);
        order(x, 0, 1, 3, 4, 6, 7, 2, 5, 8);
        told(x, 13, 3, 17);
        due("best(-1)", x.best(-1), NONE);
        due("best(LEAST)", x.best(LEAST), NONE);
        due("best(MOST)", x.best(MOST), NONE);
        x.pour(1);
        x.need(8, 3);
        due("best(0), not enough comes", x.best(0), NONE);
        Counted y = wall(2, 2);
        y.truck(0, 4);
        // all in a row: any ORDER does no HARM, so the first
        order(y, 0, 1, 2, 3);
        y.pour(1);
        order(y, 0, 2, 3);
        y.bound(0, 1);
        y.bound(1, 9);
        // the top of 1 must be covered by 2 at the latest: 3 at once, or 0 then 3
        order(y, 0, 3, 2);
        y.pour(0);
        y.pour(3);
        order(y, 2);
        y.pour(2);
        order(y);
    }

    private static void stops() {
        Counted x = wall(2, 2);
        due("stop(0), no BEST", x.stop(0), NONE);
        due("stop(1), no BEST", x.stop(1), NONE);
        due("stop(2), no BEST", x.stop(2), OUTSIDE);
        due("stop(-1)", x.stop(-1), OUTSIDE);
        x.truck(0, 4);
        due("stop(0)", x.stop(0), 0);
        due("stop(1), now", x.stop(1), 0);
        x.pour(0);
        String before = all(x);
        // now 3 and 1; with 1: two tops; with 2: a top and a side; with 3: none
        told(x, 16, 4);
        due("stop(0)", x.stop(0), 0);
        due("stop(1)", x.stop(1), 3);
        unchanged(x, before);
        x.bound(1, 0);
        due("stop(0)", x.stop(0), 0);
        due("stop(1), the fewest", x.stop(1), 1);
        x.rest(9);
        // the side and the top of 0 are JOINTS already and stay so
        due("stop(0)", x.stop(0), 1);
        due("stop(1)", x.stop(1), 0);
    }

    private static void writes() {
        Counted x = pair(0, 10);
        due("write(1, true)", x.write(1, true), UNKNOWN);
        due("write(-1, true)", x.write(-1, true), UNKNOWN);
        due("write(0, false)", x.write(0, false), 1);
        due("write(0, true)", x.write(0, true), 2);
        due("write(0, false)", x.write(0, false), 3);
        told(x, 17, 3, 1);
        x.pour(0);
        x.rest(7);
        told(x, 17, 3, 0);
        x.undo(1);
        told(x, 17, 3, 1);
        for (int i = 4; i <= 20; i++) due("write(0, false)", x.write(0, false), i);
        due("write(0, false), the 21st", x.write(0, false), FULL);
        due("write(2, false), UNKNOWN ahead of FULL", x.write(2, false), UNKNOWN);
        told(x, 17, 20, 1);
        Counted y = new Counted();
        y.write(17, false);
        y.keep(0);
        told(y, 17, 1, NONE);
        y.build(1, 1);
        told(y, 17, 1, 0);
        y.goBack(0);
        told(y, 17, 1, NONE);
    }

    private static void tears() {
        Counted x = new Counted();
        due("tear()", x.tear(), 0);
        x.write(0, true);
        x.write(1, false);
        told(x, 17, 2, 0);
        due("tear()", x.tear(), 2);
        told(x, 17, 0, NONE, 0);
        due("tear()", x.tear(), 0);
        due("write(1, false)", x.write(1, false), 1);
        told(x, 17, 1, NONE);
    }

    private static void seeds() {
        Counted x = new Counted();
        due("seed(-1)", x.seed(-1), OUTSIDE);
        due("seed(LEAST)", x.seed(LEAST), OUTSIDE);
        due("seed(MOST)", x.seed(MOST), 0);
        due("seed(5)", x.seed(5), MOST);
        due("seed(-1)", x.seed(-1), OUTSIDE);
        due("seed(0)", x.seed(0), 5);
        told(x, 19, 0);
    }

    private static void keeps() {
        Counted x = pair(0, 4);
        for (int i : new int[] {-1, 2, LEAST, MOST}) due("keep(" + i + ")", x.keep(i), UNKNOWN);
        told(x, 19, 3);
        due("keep(1)", x.keep(1), 1);
        told(x, 19, 0);
        due("undo(1)", x.undo(1), NOT);
        due("goBack(0), not kept", x.goBack(0), NOT);
        x.pour(0);
        due("keep(1), over what was kept", x.keep(1), 1);
        String kept = all(x);
        x.build(3, 3);
        x.goBack(1);
        unchanged(x, kept);
    }

    private static void goesBack() {
        Counted x = pair(0, 4);
        for (int i : new int[] {-1, 2, LEAST, MOST}) due("goBack(" + i + ")", x.goBack(i), UNKNOWN);
        due("goBack(1)", x.goBack(1), NOT);
        x.seed(77);
        x.bound(0, 3);
        x.pour(0);
        x.keep(0);
        String first = all(x);
        x.drift(9);
        x.build(2, 2);
        x.bound(1, 1);
        x.keep(1);
        String second = all(x);
        x.rest(5);
        x.seed(4);
        told(x, 13, NONE);
        due("goBack(0)", x.goBack(0), 1);
        unchanged(x, first);
        due("seed(77)", x.seed(77), 77);
        due("undo(1)", x.undo(1), NOT);
        x.rest(1);
        told(x, 19, 1);
        due("goBack(1)", x.goBack(1), 1);
        unchanged(x, second);
        due("goBack(1) again", x.goBack(1), 1);
        unchanged(x, second);
    }

    public static void main(String[] args) {
        promise = 1; newObject();
        promise = 2; toldOfAll();
        promise = 3; cellOfAll(); harmOfOthersBehindIt();
        promise = 4; edgeOfAll();
        promise = 5; truckOfAll();
        promise = 6; built();
        promise = 7; trucks();
        promise = 8; lateTrucks();
        promise = 9; trucksAway();
        promise = 10; needs();
        promise = 11; bounds();
        promise = 12; pours();
        promise = 13; rests();
        promise = 14; follows();
        promise = 15; drifts(373, 3, 2, 0); drifts(11, 3, 3, 0); drifts(2147483647, 1, 3, 0);
        for (int seed = 0; seed < 20; seed++) drifts(seed, 3, 2, 7 + seed % 4);
        promise = 16; undone();
        promise = 17; bests();
        promise = 18; stops();
        promise = 19; writes();
        promise = 20; tears();
        promise = 21; seeds();
        promise = 22; keeps();
        promise = 23; goesBack();
        System.out.println(wrong == 0 ? "all answers are as due" : wrong + " answers are not as due");
        if (wrong != 0) System.exit(1);
    }
}
