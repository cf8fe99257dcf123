import java.util.ArrayList;
import java.util.List;

/** Every refusal that the document names: when it is answered, which of several, and that it changes nothing. */
public final class RefusalTest extends Sentences {
    private static final int[] NO_IMAGE = {-1, 2, 3, LEAST, MOST};
    private static final Maker SITE = RefusalTest::site, FRESH = Counted::new, ALL_TRUCKS = RefusalTest::allTrucks,
        FULL_BOOK = RefusalTest::fullBook, LAST_TIME = RefusalTest::lastTime, ALL_POURED = RefusalTest::allPoured,
        TOO_LITTLE = RefusalTest::tooLittle, NONE_BELOW = RefusalTest::noneBelow, TWENTY_DEEDS = RefusalTest::twentyDeeds,
        ONE_KEPT = RefusalTest::oneKept;
    private static final List<Call> refusedOnSite = new ArrayList<>();

    /** Something of everything: IMAGES, THE BOOK, a SEED, deeds to undo, CELLS POURED and not, LOADS for all and no more. */
    private static Counted site() {
        Counted x = wall(2, 2);
        x.seed(31);
        x.truck(0, 2);
        x.keep(0);
        x.truck(3, 1);
        x.bound(1, 5);
        x.pour(0);
        x.seed(99);
        x.keep(1);
        x.truck(4, 2);
        x.need(3, 2);
        x.pour(2);
        x.write(0, false);
        x.write(1, true);
        return x;
    }

    private static Counted allTrucks() {
        Counted x = wall(1, 2);
        for (int k = 0; k < 9; k++) x.truck(11 * k, 1);
        x.pour(0);
        return x;
    }

    private static Counted fullBook() {
        Counted x = wall(1, 2);
        x.truck(0, 2);
        for (int i = 0; i < 20; i++) x.write(0, i == 13);
        return x;
    }

    private static Counted lastTime() {
        return restUntil(wall(1, 1), 9999);
    }

    private static Counted allPoured() {
        Counted x = supplied(2, 1);
        x.pour(1);
        x.pour(0);
        return x;
    }

    private static Counted tooLittle() {
        Counted x = wall(2, 1);
        x.truck(0, 1);
        return x;
    }

    /** One object for each way to look at what is kept: as it is, each step undone, each IMAGE gone back to. */
    private static List<String> views(Maker maker, Call call) {
        List<String> views = new ArrayList<>();
        int steps = maker.make().told(19);
        for (int step = -2; step <= steps; step++) {
            Counted x = maker.make();
            if (call != null) call.on(x);
            int answer = step < 0 ? x.goBack(step + 2) : step > 0 ? x.undo(step) : 0;
            views.add(answer + " " + x.view());
        }
        return views;
    }

    private static void refused(Maker maker, String name, Call call, int refusal) {
        if (maker == SITE) refusedOnSite.add(call);
        due(name, call.on(maker.make()), refusal);
        alike(name + " changed something", String.join("\n", views(maker, call)), String.join("\n", views(maker, null)));
    }

    private static void toldRefusals() {
        for (int what : new int[] {-1, 20, 21, LEAST, MOST}) refused(SITE, "told(" + what + ")", x -> x.told(what), OUTSIDE);
        refused(FRESH, "told(20)", x -> x.told(20), OUTSIDE);
    }

    private static void cellRefusals() {
        for (int c : new int[] {-1, 4, 5, 9, LEAST, MOST}) {
            for (int what = -1; what <= 5; what++) {
                int w = what;
                refused(SITE, "cell(" + c + ", " + w + ")", x -> x.cell(c, w), UNKNOWN);
            }
        }
        for (int what : new int[] {-1, 5, 6, LEAST, MOST}) {
            refused(SITE, "cell(0, " + what + "), POURED", x -> x.cell(0, what), OUTSIDE);
            refused(SITE, "cell(3, " + what + "), not POURED", x -> x.cell(3, what), OUTSIDE);
        }
        refused(FRESH, "cell(6, 0), the wall is 3 by 2", x -> x.cell(6, 0), UNKNOWN);
    }

    private static void edgeRefusals() {
        for (int e : new int[] {2, 4, 6, 8, 9, 10, 12, -1, -2, -3, 26, 27, LEAST, MOST}) {
            for (int what = -1; what <= 3; what++) {
                int w = what;
                refused(SITE, "edge(" + e + ", " + w + ")", x -> x.edge(e, w), UNKNOWN);
            }
        }
        for (int what : new int[] {-1, 3, 4, LEAST, MOST}) {
            refused(SITE, "edge(0, " + what + ")", x -> x.edge(0, what), OUTSIDE);
            refused(SITE, "edge(11, " + what + ")", x -> x.edge(11, what), OUTSIDE);
        }
    }

    private static void truckAtRefusals() {
        for (int k : new int[] {-1, 3, 8, 9, LEAST, MOST}) {
            for (int what = -1; what <= 3; what++) {
                int w = what;
                refused(SITE, "truckAt(" + k + ", " + w + ")", x -> x.truckAt(k, w), UNKNOWN);
            }
        }
        for (int what : new int[] {-1, 3, 4, LEAST, MOST}) {
            refused(SITE, "truckAt(2, " + what + ")", x -> x.truckAt(2, what), OUTSIDE);
            refused(TOO_LITTLE, "truckAt(0, " + what + "), no BEST", x -> x.truckAt(0, what), OUTSIDE);
        }
        refused(FRESH, "truckAt(0, 0), none at first", x -> x.truckAt(0, 0), UNKNOWN);
        refused(ALL_TRUCKS, "truckAt(9, 0), 9 at most", x -> x.truckAt(9, 0), UNKNOWN);
    }

    private static void buildRefusals() {
        for (int v : new int[] {0, 4, -1, LEAST, MOST}) {
            for (int good = 1; good <= 3; good++) {
                int g = good;
                refused(SITE, "build(" + v + ", " + g + ")", x -> x.build(v, g), OUTSIDE);
                refused(SITE, "build(" + g + ", " + v + ")", x -> x.build(g, v), OUTSIDE);
            }
            refused(SITE, "build(" + v + ", " + v + ")", x -> x.build(v, v), OUTSIDE);
        }
    }

    private static void truckRefusals() {
        for (int time : new int[] {-1, 100, LEAST, MOST}) {
            refused(SITE, "truck(" + time + ", 1)", x -> x.truck(time, 1), OUTSIDE);
            refused(SITE, "truck(" + time + ", 4)", x -> x.truck(time, 4), OUTSIDE);
        }
        for (int loads : new int[] {0, 5, -1, LEAST, MOST}) {
            refused(SITE, "truck(0, " + loads + ")", x -> x.truck(0, loads), OUTSIDE);
            refused(SITE, "truck(99, " + loads + ")", x -> x.truck(99, loads), OUTSIDE);
        }
        refused(ALL_TRUCKS, "truck(0, 1), the tenth", x -> x.truck(0, 1), FULL);
        refused(ALL_TRUCKS, "truck(99, 4), the tenth", x -> x.truck(99, 4), FULL);
    }

    private static void lateRefusals() {
        for (int k : new int[] {-1, 3, 9, LEAST, MOST}) refused(SITE, "late(" + k + ", 1)", x -> x.late(k, 1), UNKNOWN);
        refused(FRESH, "late(0, 0), none at first", x -> x.late(0, 0), UNKNOWN);
        for (int n : new int[] {-100, 100, LEAST, MOST, 96, -5}) refused(SITE, "late(2, " + n + ")", x -> x.late(2, n), OUTSIDE);
        refused(SITE, "late(1, 97)", x -> x.late(1, 97), OUTSIDE);
        refused(SITE, "late(0, -1)", x -> x.late(0, -1), OUTSIDE);
        for (int n : new int[] {3, 4, 99}) refused(SITE, "late(0, " + n + "), STOCK is 0 now", x -> x.late(0, n), NOT);
    }

    private static void awayRefusals() {
        for (int k : new int[] {-1, 3, 9, LEAST, MOST}) refused(SITE, "away(" + k + ")", x -> x.away(k), UNKNOWN);
        refused(FRESH, "away(0), none at first", x -> x.away(0), UNKNOWN);
        refused(SITE, "away(0), STOCK is 0 now", x -> x.away(0), NOT);
    }

    private static void needRefusals() {
        for (int c : new int[] {-1, 4, 9, LEAST, MOST}) refused(SITE, "need(" + c + ", 1)", x -> x.need(c, 1), UNKNOWN);
        for (int loads : new int[] {0, 4, -1, LEAST, MOST}) refused(SITE, "need(3, " + loads + ")", x -> x.need(3, loads), OUTSIDE);
        for (int loads = 1; loads <= 3; loads++) {
            int l = loads;
            refused(SITE, "need(2, " + l + "), POURED", x -> x.need(2, l), NOT);
        }
    }

    private static void boundRefusals() {
        for (int what : new int[] {-1, 3, LEAST, MOST}) {
            for (int v : new int[] {0, 1, 9}) refused(SITE, "bound(" + what + ", " + v + ")", x -> x.bound(what, v), OUTSIDE);
        }
        for (int v : new int[] {0, 41, -1, LEAST, MOST}) refused(SITE, "bound(0, " + v + ")", x -> x.bound(0, v), OUTSIDE);
        for (int v : new int[] {-1, 10, 40, LEAST, MOST}) {
            refused(SITE, "bound(1, " + v + ")", x -> x.bound(1, v), OUTSIDE);
            refused(SITE, "bound(2, " + v + ")", x -> x.bound(2, v), OUTSIDE);
        }
    }

    private static Counted noneBelow() {
        return supplied(2, 2);
    }

    private static void pourRefusals() {
        for (int c : new int[] {-1, 4, 9, LEAST, MOST}) refused(SITE, "pour(" + c + ")", x -> x.pour(c), UNKNOWN);
        refused(SITE, "pour(0), POURED", x -> x.pour(0), NOT);
        refused(SITE, "pour(2), POURED", x -> x.pour(2), NOT);
        refused(SITE, "pour(3), nothing below", x -> x.pour(3), NOT);
        refused(NONE_BELOW, "pour(2), nothing below", x -> x.pour(2), NOT);
        refused(FRESH, "pour(0), no TRUCKS", x -> x.pour(0), NOT);
        refused(ALL_POURED, "pour(1), all are POURED", x -> x.pour(1), NOT);
    }

    private static void restRefusals() {
        for (int n : new int[] {0, 41, -1, LEAST, MOST}) refused(SITE, "rest(" + n + ")", x -> x.rest(n), OUTSIDE);
        for (int n : new int[] {1, 40}) refused(LAST_TIME, "rest(" + n + ") at 9999", x -> x.rest(n), NOT);
    }

    private static void followRefusals() {
        refused(FRESH, "follow(), no TRUCKS", x -> x.follow(), NOT);
        refused(TOO_LITTLE, "follow(), a LOAD too few", x -> x.follow(), NOT);
        refused(ALL_POURED, "follow(), nothing is left", x -> x.follow(), NOT);
    }

    private static void driftRefusals() {
        for (int n : new int[] {0, 21, -1, LEAST, MOST}) refused(SITE, "drift(" + n + ")", x -> x.drift(n), OUTSIDE);
    }

    private static Counted twentyDeeds() {
        Counted x = wall(1, 1);
        for (int i = 0; i < 25; i++) x.rest(1);
        return x;
    }

    private static void undoRefusals() {
        for (int n : new int[] {0, 21, -1, LEAST, MOST}) {
            refused(SITE, "undo(" + n + ")", x -> x.undo(n), OUTSIDE);
            refused(TWENTY_DEEDS, "undo(" + n + ")", x -> x.undo(n), OUTSIDE);
        }
        for (int n : new int[] {4, 5, 20}) refused(SITE, "undo(" + n + "), 3 deeds", x -> x.undo(n), NOT);
        refused(FRESH, "undo(1), no deed", x -> x.undo(1), NOT);
    }

    private static void stopRefusals() {
        for (int what : new int[] {-1, 2, 3, LEAST, MOST}) {
            refused(SITE, "stop(" + what + ")", x -> x.stop(what), OUTSIDE);
            refused(TOO_LITTLE, "stop(" + what + "), no BEST", x -> x.stop(what), OUTSIDE);
        }
    }

    private static void writeRefusals() {
        for (int e : new int[] {2, 4, 6, 8, 9, 10, 12, -1, -2, -3, 27, LEAST, MOST}) {
            refused(SITE, "write(" + e + ", true)", x -> x.write(e, true), UNKNOWN);
            refused(SITE, "write(" + e + ", false)", x -> x.write(e, false), UNKNOWN);
        }
        refused(FULL_BOOK, "write(0, true), the 21st", x -> x.write(0, true), FULL);
        refused(FULL_BOOK, "write(0, false), the 21st", x -> x.write(0, false), FULL);
    }

    private static void seedRefusals() {
        for (int v : new int[] {-1, -2, LEAST}) {
            refused(SITE, "seed(" + v + ")", x -> x.seed(v), OUTSIDE);
            refused(FRESH, "seed(" + v + ")", x -> x.seed(v), OUTSIDE);
        }
    }

    private static void keepRefusals() {
        for (int i : NO_IMAGE) refused(SITE, "keep(" + i + ")", x -> x.keep(i), UNKNOWN);
    }

    private static Counted oneKept() {
        Counted x = wall(1, 2);
        x.keep(1);
        x.truck(5, 2);
        return x;
    }

    private static void goBackRefusals() {
        for (int i : NO_IMAGE) refused(SITE, "goBack(" + i + ")", x -> x.goBack(i), UNKNOWN);
        refused(FRESH, "goBack(0), none is kept", x -> x.goBack(0), NOT);
        refused(FRESH, "goBack(1), none is kept", x -> x.goBack(1), NOT);
        refused(ONE_KEPT, "goBack(0), the other is kept", x -> x.goBack(0), NOT);
    }

    /** Calls that could be refused for two reasons at once. */
    private static void firstOfSeveral() {
        refused(SITE, "cell(4, 5), UNKNOWN and OUTSIDE", x -> x.cell(4, 5), UNKNOWN);
        refused(SITE, "edge(2, 3), UNKNOWN and OUTSIDE", x -> x.edge(2, 3), UNKNOWN);
        refused(SITE, "truckAt(3, 3), UNKNOWN and OUTSIDE", x -> x.truckAt(3, 3), UNKNOWN);
        refused(SITE, "late(3, 100), UNKNOWN and OUTSIDE", x -> x.late(3, 100), UNKNOWN);
        refused(SITE, "need(4, 4), UNKNOWN and OUTSIDE", x -> x.need(4, 4), UNKNOWN);
        refused(SITE, "late(0, 100), OUTSIDE and NOT", x -> x.late(0, 100), OUTSIDE);
        refused(SITE, "need(0, 4), OUTSIDE and NOT", x -> x.need(0, 4), OUTSIDE);
        refused(SITE, "need(0, 0), OUTSIDE and NOT", x -> x.need(0, 0), OUTSIDE);
        refused(LAST_TIME, "rest(41), OUTSIDE and NOT", x -> x.rest(41), OUTSIDE);
        refused(SITE, "undo(21), OUTSIDE and NOT", x -> x.undo(21), OUTSIDE);
        refused(ALL_TRUCKS, "truck(100, 1), OUTSIDE and FULL", x -> x.truck(100, 1), OUTSIDE);
        refused(ALL_TRUCKS, "truck(0, 5), OUTSIDE and FULL", x -> x.truck(0, 5), OUTSIDE);
        refused(FULL_BOOK, "write(1, true), UNKNOWN and FULL", x -> x.write(1, true), UNKNOWN);
        refused(FULL_BOOK, "write(-1, true), UNKNOWN and FULL", x -> x.write(-1, true), UNKNOWN);
        refused(ONE_KEPT, "goBack(2), UNKNOWN and not kept", x -> x.goBack(2), UNKNOWN);
        refused(FRESH, "pour(6), UNKNOWN and nothing comes", x -> x.pour(6), UNKNOWN);
    }

    /** A TRUCK at 1 that is used: its TIME would be 100, and STOCK below 0. */
    private static void lateOutsideAndNot() {
        Maker used = () -> {
            Counted x = wall(1, 1);
            x.truck(1, 1);
            x.pour(0);
            return x;
        };
        refused(used, "late(0, 99), OUTSIDE and NOT", x -> x.late(0, 99), OUTSIDE);
        refused(used, "late(0, 98), NOT alone", x -> x.late(0, 98), NOT);
    }

    /** What there was and is no more, and what there is only since. */
    private static void thereIsNot() {
        Counted x = wall(3, 3);
        due("cell(8, 0)", x.cell(8, 0), 1);
        due("edge(26, 0)", x.edge(26, 0), 0);
        x.truck(1, 1);
        x.truck(2, 2);
        due("truckAt(1, 0)", x.truckAt(1, 0), 2);
        x.away(0);
        due("truckAt(1, 0), away", x.truckAt(1, 0), UNKNOWN);
        x.undo(1);
        due("truckAt(1, 0), undone", x.truckAt(1, 0), 2);
        x.build(1, 1);
        due("truckAt(0, 0), BUILT", x.truckAt(0, 0), UNKNOWN);
        due("cell(8, 0), BUILT", x.cell(8, 0), UNKNOWN);
        due("cell(1, 0), BUILT", x.cell(1, 0), UNKNOWN);
        due("cell(0, 0), BUILT", x.cell(0, 0), 1);
        for (int e = 0; e < 27; e++) due("edge(" + e + ", 0), BUILT 1 by 1", x.edge(e, 0), UNKNOWN);
        x.undo(1);
        due("cell(8, 0), undone", x.cell(8, 0), 1);
        due("edge(26, 0), undone", x.edge(26, 0), 0);
        due("keep(0)", x.keep(0), 1);
        due("keep(1)", x.keep(1), 1);
    }

    private static void numbersOfRefusals() {
        due("NONE", PourPlan.NONE, -1);
        due("UNKNOWN", PourPlan.UNKNOWN, -1000000001);
        due("OUTSIDE", PourPlan.OUTSIDE, -1000000002);
        due("NOT", PourPlan.NOT, -1000000003);
        due("FULL", PourPlan.FULL, -1000000004);
    }

    /** All at once, one behind the other: none of them leaves something for the next. */
    private static void nothingChanges() {
        Call all = x -> {
            for (Call call : refusedOnSite) call.on(x);
            return refusedOnSite.size();
        };
        alike("all refused calls changed something", String.join("\n", views(SITE, all)), String.join("\n", views(SITE, null)));
    }

    private static void promises2To11() {
        sentence("18 WRONG, 19 how many can be undone. OUTSIDE.", RefusalTest::toldRefusals);
        sentence("4 HARM then, behind it (NONE). UNKNOWN, OUTSIDE.", RefusalTest::cellRefusals);
        sentence("1 1 it is a JOINT, 0 not, 2 LEFT. UNKNOWN, OUTSIDE.", RefusalTest::edgeRefusals);
        sentence("what = 0 TIME, 1 LOADS, 2 MAY BE LATE. UNKNOWN, OUTSIDE.", RefusalTest::truckAtRefusals);
        sentence("BUILT: how many CELLS were POURED. OUTSIDE.", RefusalTest::buildRefusals);
        sentence("its number. OUTSIDE, FULL (9).", RefusalTest::truckRefusals);
        sentence("its TIME. UNKNOWN, OUTSIDE, NOT: STOCK would be below 0 now.", RefusalTest::lateRefusals);
        sentence("how many are left. UNKNOWN, NOT: STOCK would be below 0 now.", RefusalTest::awayRefusals);
        sentence("what it needed. UNKNOWN, OUTSIDE, NOT: it is POURED.", RefusalTest::needRefusals);
        sentence("2 LIGHT becomes v: what it was. OUTSIDE.", RefusalTest::boundRefusals);
    }

    private static void promises12To23() {
        sentence("POURED: HARM then. UNKNOWN, NOT: it cannot be.", RefusalTest::pourRefusals);
        sentence("WAITED n (1 .. 40): TIME. OUTSIDE, NOT: TIME would be above 9999.", RefusalTest::restRefusals);
        sentence("that CELL. NOT: no BEST, or nothing is left.", RefusalTest::followRefusals);
        sentence("how many CELLS are POURED. OUTSIDE.", RefusalTest::driftRefusals);
        sentence("The n latest (1 .. 20) are undone: TIME. OUTSIDE, NOT: not so many.", RefusalTest::undoRefusals);
        sentence("what = 0 the least HARM, 1 the fewest CELLS; NONE. OUTSIDE.", RefusalTest::stopRefusals);
        sentence("An entry behind THE BOOK: how many. UNKNOWN, FULL (20).", RefusalTest::writeRefusals);
        sentence("THE SEED becomes v (0 .. 2147483647): what it was. OUTSIDE.", RefusalTest::seedRefusals);
        sentence("IMAGE i becomes what is so (nothing can be undone then): 1. UNKNOWN.", RefusalTest::keepRefusals);
        sentence("What is so becomes IMAGE i (nothing can be undone then): 1. UNKNOWN, NOT: it was not kept.", RefusalTest::goBackRefusals);
    }

    public static void main(String[] args) throws Exception {
        read();
        sentence("REFUSALS, of several the first in this order: UNKNOWN", RefusalTest::firstOfSeveral);
        sentence("A TRUCK comes n later (-99 .. 99; its TIME 0 .. 99): its TIME. UNKNOWN, OUTSIDE, NOT", RefusalTest::lateOutsideAndNot);
        sentence("UNKNOWN (a CELL, EDGE, TRUCK, IMAGE that there is not)", RefusalTest::thereIsNot);
        sentence("They are far below all that is counted: -1000000001 and on.", RefusalTest::numbersOfRefusals);
        promises2To11();
        promises12To23();
        sentence("What is refused changes nothing.", RefusalTest::nothingChanges);
        end();
    }
}
