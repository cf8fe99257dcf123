import java.math.BigInteger;

/** Each sentence of the document that names a boundary (the least, the most, none, all, just so, one more), but for refusals. */
public final class BoundaryTest extends Sentences {

    // ---- terms

    private static void callsAtMost() {
        Counted x = wall(3, 3);
        x.bound(0, 4);
        for (int k = 0; k < 9; k++) x.truck(2 * k, 1);
        while (x.calls() < 509) {
            x.rest(1);
            x.undo(1);
        }
        due("told(13), the 510th", x.told(13), 3);
        due("told(14), the 511th", x.told(14), 17);
        due("best(8), the 512th", x.best(8), 8);
        due("calls", x.calls(), 512);
    }

    private static void numbersFrom0() {
        Counted x = new Counted();
        due("truck(7, 2)", x.truck(7, 2), 0);
        due("truck(5, 3)", x.truck(5, 3), 1);
        due("truckAt(0, 0)", x.truckAt(0, 0), 7);
        due("truckAt(1, 0)", x.truckAt(1, 0), 5);
        due("truckAt(2, 0)", x.truckAt(2, 0), UNKNOWN);
        due("cell(0, 0)", x.cell(0, 0), 1);
        due("cell(5, 0)", x.cell(5, 0), 1);
        due("cell(6, 0)", x.cell(6, 0), UNKNOWN);
        due("edge(0, 0)", x.edge(0, 0), 0);
        due("keep(0)", x.keep(0), 1);
        due("keep(1)", x.keep(1), 1);
        due("write(0, true)", x.write(0, true), 1);
        due("told(18)", x.told(18), 0);
        x.build(1, 1);
        x.truck(0, 1);
        order(x, 0);
    }

    private static void sets() {
        Counted x = wall(3, 3);
        told(x, 5, 0, 0);
        for (int k = 0; k < 3; k++) x.truck(0, 3);
        told(x, 5, 0, 7);
        x.pour(2);
        told(x, 5, 4, 35);
        for (int c : new int[] {5, 8, 0, 1, 3, 4, 6}) x.pour(c);
        told(x, 5, 511 - 128, 128);
        x.pour(7);
        told(x, 5, 511, 0);
    }

    private static void noneIs() {
        due("NONE", PourPlan.NONE, -1);
        Counted x = new Counted();
        due("cell(0, 1)", x.cell(0, 1), -1);
        due("best(0)", x.best(0), -1);
    }

    // ---- 1 the wall

    private static void stripsAndLayers() {
        Counted first = new Counted();
        told(first, 0, 3, 2);
        for (int strips = 1; strips <= 3; strips++) {
            for (int layers = 1; layers <= 3; layers++) {
                Counted x = new Counted();
                due("build(" + strips + ", " + layers + ")", x.build(strips, layers), 0);
                told(x, 0, strips, layers);
            }
        }
        for (int v : new int[] {0, 4}) {
            due("build(" + v + ", 2)", first.build(v, 2), OUTSIDE);
            due("build(2, " + v + ")", first.build(2, v), OUTSIDE);
        }
        told(first, 0, 3, 2);
    }

    /** What stands on what tells the STRIP and the LAYER. */
    private static void stripAndLayerOfCells() {
        for (int strips = 1; strips <= 3; strips++) {
            for (int layers = 1; layers <= 3; layers++) {
                Counted x = supplied(strips, layers);
                int cells = strips * layers;
                told(x, 6, (1 << strips) - 1);
                due("cell(" + (cells - 1) + ", 0)", x.cell(cells - 1, 0), 1);
                due("cell(" + cells + ", 0)", x.cell(cells, 0), UNKNOWN);
                for (int c = 0; c < cells; c++) {
                    int above = c + strips;
                    if (above < cells) due("cell(" + above + ", 3), nothing below", x.cell(above, 3), NONE);
                    due("cell(" + c + ", 3)", x.cell(c, 3), c);
                    due("pour(" + c + ")", x.pour(c), 0);
                    if (above < cells) due("cell(" + above + ", 3)", x.cell(above, 3), c + 1);
                }
            }
        }
    }

    private static void needsOfCells() {
        Counted x = wall(3, 3);
        for (int c = 0; c < 9; c++) {
            due("cell(" + c + ", 0), at first", x.cell(c, 0), 1);
            due("need(" + c + ", 3)", x.need(c, 3), 1);
            due("cell(" + c + ", 0)", x.cell(c, 0), 3);
            due("need(" + c + ", 4)", x.need(c, 4), OUTSIDE);
            due("need(" + c + ", 0)", x.need(c, 0), OUTSIDE);
            due("need(" + c + ", 2)", x.need(c, 2), 3);
            due("need(" + c + ", 1)", x.need(c, 1), 2);
            due("need(" + c + ", 1)", x.need(c, 1), 1);
        }
    }

    private static void timeAtFirst() {
        told(new Counted(), 2, 0);
    }

    private static void trucksAtMost() {
        Counted x = new Counted();
        told(x, 3, 0);
        due("truckAt(0, 0)", x.truckAt(0, 0), UNKNOWN);
        due("truck(0, 1)", x.truck(0, 1), 0);
        due("truck(99, 4)", x.truck(99, 4), 1);
        due("truck(100, 4)", x.truck(100, 4), OUTSIDE);
        due("truck(-1, 4)", x.truck(-1, 4), OUTSIDE);
        due("truck(99, 5)", x.truck(99, 5), OUTSIDE);
        due("truck(99, 0)", x.truck(99, 0), OUTSIDE);
        for (int k = 2; k < 9; k++) due("truck(" + k + ", 2)", x.truck(k, 2), k);
        told(x, 3, 9);
        due("truck(0, 1), the tenth", x.truck(0, 1), FULL);
        due("truckAt(1, 0)", x.truckAt(1, 0), 99);
        due("truckAt(1, 1)", x.truckAt(1, 1), 4);
        due("truckAt(8, 0)", x.truckAt(8, 0), 8);
        due("away(4)", x.away(4), 8);
        due("truck(50, 3), there is room again", x.truck(50, 3), 8);
        due("truck(50, 3)", x.truck(50, 3), FULL);
    }

    private static void stockAtATime() {
        Counted x = wall(1, 1);
        told(x, 4, 0);
        x.truck(5, 3);
        x.truck(6, 1);
        told(x, 4, 0);
        x.rest(4);
        told(x, 4, 0);
        x.rest(1);
        told(x, 4, 3);
        x.rest(1);
        told(x, 4, 4);
        x.need(0, 2);
        x.pour(0);
        told(x, 2, 8, 2, 2);
        x.truck(9, 4);
        told(x, 4, 2);
        x.truck(8, 4);
        told(x, 4, 6);
        Counted most = wall(3, 3);
        for (int k = 0; k < 9; k++) most.truck(0, 4);
        told(most, 4, 36);
        for (int c = 0; c < 9; c++) most.need(c, 3);
        for (int c = 0; c < 9; c++) most.pour(c);
        told(most, 4, 9);
    }

    private static void pouredIf() {
        Counted x = supplied(2, 3);
        due("pour(2), nothing below", x.pour(2), NOT);
        due("pour(4), nothing below", x.pour(4), NOT);
        due("pour(0), the lowest", x.pour(0), 0);
        due("pour(0), it is POURED", x.pour(0), NOT);
        due("pour(3), the other STRIP is not there", x.pour(3), NOT);
        due("pour(4), not that below", x.pour(4), NOT);
        due("pour(2)", x.pour(2), 0);
        due("pour(4), the highest", x.pour(4), 0);
        due("pour(4), it is POURED", x.pour(4), NOT);
        told(x, 5, 21, 2);
    }

    private static void beginsAt() {
        Counted x = wall(1, 1);
        x.truck(9, 1);
        x.truck(3, 1);
        x.truck(5, 1);
        due("cell(0, 3), needs 1", x.cell(0, 3), 3);
        x.need(0, 2);
        due("cell(0, 3), needs 2", x.cell(0, 3), 5);
        x.need(0, 3);
        due("cell(0, 3), needs 3", x.cell(0, 3), 9);
        x.need(0, 1);
        x.rest(3);
        due("cell(0, 3), just now", x.cell(0, 3), 3);
        x.rest(1);
        due("cell(0, 3), not before now", x.cell(0, 3), 4);
        x.need(0, 2);
        due("cell(0, 3), one LOAD too few now", x.cell(0, 3), 5);
        restUntil(x, 120);
        due("cell(0, 3), long behind all TRUCKS", x.cell(0, 3), 120);
        x.pour(0);
        due("cell(0, 1)", x.cell(0, 1), 120);
        Counted more = wall(1, 1);
        more.truck(2, 1);
        more.truck(4, 4);
        more.need(0, 2);
        due("cell(0, 3), more than it needs", more.cell(0, 3), 4);
    }

    private static void doneAt() {
        for (int loads = 1; loads <= 3; loads++) {
            Counted x = wall(1, 1);
            x.truck(7, 4);
            x.need(0, loads);
            x.pour(0);
            due("cell(0, 1)", x.cell(0, 1), 7);
            due("cell(0, 2)", x.cell(0, 2), 7 + loads);
            told(x, 2, 7 + loads);
        }
    }

    private static void notEnough() {
        Counted x = wall(2, 1);
        due("pour(0), no TRUCKS", x.pour(0), NOT);
        x.truck(99, 2);
        x.need(0, 3);
        due("pour(0), a LOAD too few", x.pour(0), NOT);
        due("cell(0, 3)", x.cell(0, 3), NONE);
        told(x, 6, 2);
        x.truck(98, 1);
        due("cell(0, 3), just enough", x.cell(0, 3), 99);
        due("pour(0)", x.pour(0), 0);
        told(x, 2, 102, 2, 0, 1, 0);
        due("pour(1), all is used", x.pour(1), NOT);
        x.truck(0, 1);
        due("cell(1, 3)", x.cell(1, 3), 102);
        due("pour(1)", x.pour(1), 0);
    }

    private static void edgesThereAre() {
        for (int strips = 1; strips <= 3; strips++) {
            for (int layers = 1; layers <= 3; layers++) {
                Counted x = wall(strips, layers);
                for (int layer = 0; layer < 3; layer++) {
                    for (int strip = 0; strip < strips; strip++) {
                        int c = layer * strips + strip;
                        boolean there = layer < layers;
                        due("edge(" + 3 * c + ", 0)", x.edge(3 * c, 0), there && layer + 1 < layers ? 0 : UNKNOWN);
                        due("edge(" + (3 * c + 1) + ", 0)", x.edge(3 * c + 1, 0), there && strip + 1 < strips ? 0 : UNKNOWN);
                        due("edge(" + (3 * c + 2) + ", 0)", x.edge(3 * c + 2, 0), there && strip > 0 ? 0 : UNKNOWN);
                    }
                }
                due("edge(-1, 0)", x.edge(-1, 0), UNKNOWN);
                due("edge(27, 0)", x.edge(27, 0), UNKNOWN);
            }
        }
    }

    private static void openFromUntil() {
        Counted x = supplied(2, 2);
        for (int e : new int[] {0, 1, 3, 5, 7, 11}) due("edge(" + e + ", 0), nothing is POURED", x.edge(e, 0), 0);
        x.pour(0);
        due("edge(0, 0)", x.edge(0, 0), 1);
        due("edge(1, 0)", x.edge(1, 0), 1);
        due("edge(5, 0), of the CELL that is not", x.edge(5, 0), 0);
        x.rest(7);
        due("edge(1, 0), a JOINT is OPEN too", x.edge(1, 0), 1);
        x.pour(1);
        due("edge(1, 0), covered", x.edge(1, 0), 0);
        due("edge(5, 0), never OPEN", x.edge(5, 0), 0);
        due("edge(0, 0)", x.edge(0, 0), 1);
        due("edge(3, 0)", x.edge(3, 0), 1);
        x.pour(2);
        due("edge(0, 0), covered", x.edge(0, 0), 0);
        due("edge(7, 0)", x.edge(7, 0), 1);
        x.pour(3);
        x.rest(40);
        for (int e : new int[] {0, 1, 3, 5, 7, 11}) due("edge(" + e + ", 0), all is POURED", x.edge(e, 0), 0);
        due("edge(5, 1), never OPEN, no JOINT", x.edge(5, 1), 0);
        due("edge(11, 1), never OPEN, no JOINT", x.edge(11, 1), 0);
        due("edge(1, 1)", x.edge(1, 1), 1);
    }

    /** The first is DONE at 1; the other BEGINS so much later. kind 0 a top, 1 a right side, 2 a left side. */
    private static Counted covered(int kind, int age, int gap) {
        Counted x = kind == 0 ? wall(1, 2) : wall(2, 1);
        int first = kind == 2 ? 1 : 0;
        x.bound(0, age);
        x.truck(0, 1);
        x.truck(1 + gap, 1);
        x.pour(first);
        x.pour(1 - first);
        return x;
    }

    private static void setsMoreThanAge() {
        int[] edges = {0, 1, 5};
        told(new Counted(), 7, 6);
        for (int age : new int[] {1, 6, 40}) {
            for (int kind = 0; kind < 3; kind++) {
                String name = "edge(" + edges[kind] + ", 1), AGE " + age;
                Counted x = covered(kind, age, age);
                due(name + ", covered at AGE", x.edge(edges[kind], 1), 0);
                told(x, 10, 0, 0);
                x = covered(kind, age, age + 1);
                due(name + ", covered one later", x.edge(edges[kind], 1), 1);
                told(x, 10, 1, kind == 0 ? 3 : 1);
            }
        }
        Counted x = new Counted();
        due("bound(0, 40)", x.bound(0, 40), 6);
        due("bound(0, 41)", x.bound(0, 41), OUTSIDE);
        due("bound(0, 1)", x.bound(0, 1), 40);
        due("bound(0, 0)", x.bound(0, 0), OUTSIDE);
        told(x, 7, 1);
    }

    private static void openAndOlder() {
        for (int age : new int[] {1, 6, 40}) {
            Counted x = supplied(2, 2);
            x.bound(0, age);
            x.pour(1);
            x.rest(age);
            due("edge(3, 1), AGE old", x.edge(3, 1), 0);
            due("edge(5, 1), AGE old", x.edge(5, 1), 0);
            told(x, 10, 0, 0);
            x.rest(1);
            due("edge(3, 1), one older", x.edge(3, 1), 1);
            due("edge(5, 1), one older", x.edge(5, 1), 1);
            told(x, 10, 2, 4);
        }
    }

    private static Counted allJoints(int heavy, int light) {
        Counted x = supplied(3, 3);
        x.bound(1, heavy);
        x.bound(2, light);
        for (int c = 0; c < 9; c++) {
            x.pour(c);
            x.rest(7);
        }
        return x;
    }

    /** Six tops, and of the two sides between CELLS that of the first: six. */
    private static void harmOfJoints() {
        told(new Counted(), 8, 3, 1);
        for (int heavy : new int[] {0, 3, 9}) {
            for (int light : new int[] {0, 1, 9}) {
                Counted x = allJoints(heavy, light);
                told(x, 8, heavy, light, 12, 6 * heavy + 6 * light, NONE, 6 * heavy + 6 * light);
                told(x, 16, 6 * heavy + 6 * light);
            }
        }
        for (int what = 1; what <= 2; what++) {
            Counted x = new Counted();
            due("bound(" + what + ", 10)", x.bound(what, 10), OUTSIDE);
            due("bound(" + what + ", 9)", x.bound(what, 9), what == 1 ? 3 : 1);
            due("bound(" + what + ", -1)", x.bound(what, -1), OUTSIDE);
            due("bound(" + what + ", 0)", x.bound(what, 0), 9);
            due("told(" + (7 + what) + ")", x.told(7 + what), 0);
        }
    }

    private static void builtAnew() {
        Counted x = supplied(3, 3);
        x.need(8, 3);
        x.bound(0, 9);
        x.bound(1, 8);
        x.bound(2, 7);
        for (int c = 0; c < 9; c++) x.pour(c);
        due("build(3, 3), like it was", x.build(3, 3), 9);
        told(x, 0, 3, 3, 0, 0, 0, 0, 0, 9, 8, 7, 0, 0, NONE, NONE, NONE, NONE, 0);
        for (int c = 0; c < 9; c++) {
            due("cell(" + c + ", 0)", x.cell(c, 0), 1);
            due("cell(" + c + ", 1)", x.cell(c, 1), NONE);
            due("cell(" + c + ", 2)", x.cell(c, 2), NONE);
        }
        due("build(1, 1), nothing is POURED", x.build(1, 1), 0);
        told(x, 0, 1, 1);
        due("build(3, 3)", x.build(3, 3), 0);
        told(x, 0, 3, 3);
    }

    private static void waited() {
        Counted x = new Counted();
        due("rest(1)", x.rest(1), 1);
        due("rest(40)", x.rest(40), 41);
        told(x, 2, 41);
    }

    // ---- 2 orders

    private static void withoutWaiting() {
        Counted x = wall(1, 2);
        x.truck(0, 1);
        x.truck(10, 1);
        // three later there would be no HARM, but it is not waited for
        told(x, 13, 3, 11, 2);
        x.follow();
        due("cell(0, 1)", x.cell(0, 1), 0);
    }

    private static void bestByHarmThenTime() {
        Counted x = wall(2, 1);
        x.truck(0, 1);
        x.truck(5, 3);
        x.need(0, 3);
        x.bound(0, 3);
        // 1 first: DONE 1, 0 BEGINS 5: a JOINT, all is DONE at 8; 0 first: BEGINS 5, no JOINT, all is DONE at 9
        told(x, 13, 0, 9);
        order(x, 0, 1);
        x.bound(0, 4);
        told(x, 13, 0, 8);
        order(x, 1, 0);
        x.bound(0, 3);
        x.bound(2, 0);
        told(x, 13, 0, 8);
        order(x, 1, 0);
    }

    private static void withJointsNow() {
        Counted x = supplied(2, 2);
        x.pour(0);
        x.rest(6);
        // one of them can still be covered at AGE: the top
        told(x, 11, 0);
        told(x, 13, 1);
        x.rest(1);
        // its top and its side are JOINTS, OPEN or covered
        for (int c = 1; c <= 3; c++) {
            told(x, 11, 4);
            told(x, 13, 4);
            x.pour(c);
        }
        told(x, 13, 4, 11);
        for (int kind = 0; kind < 3; kind++) {
            told(covered(kind, 6, 6), 13, 0);
            told(covered(kind, 6, 7), 13, kind == 0 ? 3 : 1);
        }
    }

    private static void firstOfLike() {
        Counted x = supplied(3, 1);
        order(x, 0, 1, 2);
        x.pour(1);
        order(x, 0, 2);
        Counted y = supplied(1, 3);
        order(y, 0, 1, 2);
        Counted z = supplied(2, 2);
        order(z, 0, 1, 2, 3);
        z.pour(1);
        order(z, 0, 2, 3);
    }

    private static void noBest() {
        Counted x = wall(2, 2);
        x.truck(0, 3);
        told(x, 13, NONE, NONE, NONE);
        order(x);
        due("stop(0)", x.stop(0), NONE);
        due("stop(1)", x.stop(1), NONE);
        due("truckAt(0, 2)", x.truckAt(0, 2), NONE);
        due("follow()", x.follow(), NOT);
        x.truck(99, 1);
        // just enough: the last one waits for 99, its top and side or both sides set
        told(x, 13, 4, 100, 12);
        x.need(0, 2);
        told(x, 13, NONE, NONE, NONE);
        x.need(0, 1);
        due("pour(0)", x.pour(0), 0);
        x.away(1);
        told(x, 13, NONE, NONE, NONE);
        told(x, 6, 6);
    }

    /** All nine CELLS need the most: 27 LOADS are just enough, and the last of them may come last of all. */
    private static void justEnoughForTheMost() {
        Counted x = wall(3, 3);
        for (int c = 0; c < 9; c++) x.need(c, 3);
        for (int k = 0; k < 6; k++) x.truck(0, 4);
        x.truck(0, 2);
        told(x, 13, NONE, NONE, NONE);
        x.truck(99, 1);
        // eight CELLS are DONE at 24, a corner above BEGINS at 99: HARM of a top and a side
        told(x, 13, 4, 102, 12);
        order(x, 0, 1, 2, 3, 4, 5, 6, 7, 8);
        x.late(7, -99);
        told(x, 13, 0, 27);
        x.truck(99, 4);
        told(x, 13, 0, 27);
    }

    private static void nothingLeft() {
        Counted x = supplied(1, 1);
        x.pour(0);
        x.rest(5);
        told(x, 13, 0, 6, 12);
        order(x);
        due("stop(0)", x.stop(0), 0);
        due("stop(1)", x.stop(1), 0);
        due("follow()", x.follow(), NOT);
        Counted y = allJoints(3, 1);
        told(y, 13, 24, 72, 12);
        order(y);
        due("stop(0)", y.stop(0), 24);
        due("stop(1)", y.stop(1), 0);
    }

    // ---- 3 asked

    private static Counted someSite() {
        Counted x = supplied(2, 2);
        x.keep(0);
        x.seed(5);
        x.pour(0);
        x.keep(1);
        x.late(1, 9);
        x.write(0, true);
        x.rest(2);
        return x;
    }

    private static void nothingChangesByAsking() {
        Counted asked = someSite();
        for (int what = -1; what <= 20; what++) asked.told(what);
        for (int c = -1; c <= 4; c++) for (int what = 0; what <= 5; what++) asked.cell(c, what);
        for (int e = -1; e <= 12; e++) for (int what = 0; what <= 3; what++) asked.edge(e, what);
        for (int k = -1; k <= 3; k++) for (int what = 0; what <= 3; what++) asked.truckAt(k, what);
        for (int i = -1; i <= 4; i++) asked.best(i);
        for (int what = -1; what <= 2; what++) asked.stop(what);
        Counted plain = someSite();
        alike("what is so", asked.view(), plain.view());
        due("undo(2)", asked.undo(2), plain.undo(2));
        alike("undone", asked.section1(), plain.section1());
        for (int i = 0; i < 2; i++) {
            due("goBack", asked.goBack(i), plain.goBack(i));
            alike("gone back", asked.section1(), plain.section1());
        }
    }

    private static void canBePoured() {
        Counted x = wall(3, 1);
        told(x, 6, 0);
        x.truck(50, 2);
        x.need(1, 3);
        told(x, 6, 5);
        x.need(1, 2);
        told(x, 6, 7);
        x.pour(0);
        told(x, 6, 4);
        x.pour(2);
        told(x, 6, 0);
        x.truck(0, 2);
        told(x, 6, 2);
        x.pour(1);
        told(x, 6, 0);
    }

    private static void leftOfEdges() {
        for (int age : new int[] {1, 6, 40}) {
            Counted x = supplied(1, 2);
            x.bound(0, age);
            due("edge(0, 2), not POURED", x.edge(0, 2), -1000);
            x.pour(0);
            for (int old = 0; old <= age; old++) {
                due("edge(0, 2), " + old + " old, AGE " + age, x.edge(0, 2), age - old);
                x.rest(1);
            }
            due("edge(0, 2), a JOINT", x.edge(0, 2), -1000);
            x.undo(1);
            x.pour(1);
            due("edge(0, 2), covered", x.edge(0, 2), -1000);
        }
        Counted y = supplied(2, 1);
        y.pour(0);
        y.pour(1);
        due("edge(5, 2), never OPEN", y.edge(5, 2), -1000);
    }

    private static void firstToSet() {
        Counted x = supplied(2, 2);
        told(x, 12, NONE);
        x.pour(1);
        told(x, 12, 3);
        x.pour(3);
        told(x, 12, 5);
        x.pour(0);
        // 11 has one less LEFT than 0
        told(x, 12, 11);
        x.rest(5);
        told(x, 12, 11);
        x.rest(1);
        told(x, 12, 0);
        x.rest(1);
        told(x, 12, NONE);
        x.pour(2);
        told(x, 12, NONE);
    }

    private static void firstToSetOfLike() {
        Counted x = supplied(3, 2);
        x.pour(1);
        told(x, 12, 3);
        x.pour(4);
        told(x, 12, 4);
        x.pour(2);
        told(x, 12, 5);
    }

    private static void mayWait() {
        due("told(15), no TRUCKS", new Counted().told(15), NONE);
        for (int age = 1; age <= 40; age++) {
            Counted x = wall(1, 2);
            x.truck(0, 2);
            x.bound(0, age);
            told(x, 15, 12);
            x.pour(0);
            due("told(15), AGE " + age, x.told(15), Math.min(age, 12));
            x.rest(age);
            due("told(15), AGE old", x.told(15), 0);
            x.rest(1);
            due("told(15), a JOINT already", x.told(15), 12);
            x.need(1, 2);
            due("told(15), no BEST", x.told(15), NONE);
        }
    }

    /** HARM 1 now; 0 if 1 to 6 is waited; 1 again if 7 or more is. */
    private static void mayWaitTheGreatest() {
        Counted x = wall(3, 1);
        x.truck(0, 2);
        x.truck(9, 1);
        x.pour(0);
        told(x, 13, 1, 10, 12);
        x.rest(1);
        told(x, 13, 0, 10, 5);
        x.rest(5);
        told(x, 13, 0, 10, 0);
        x.rest(1);
        told(x, 13, 1, 10, 12);
    }

    private static Counted oneTruck(int time) {
        Counted x = wall(1, 1);
        x.truck(time, 1);
        return x;
    }

    private static void mayBeLateAtMost() {
        for (int time : new int[] {0, 1, 86, 87}) due("truckAt(0, 2) at " + time, oneTruck(time).truckAt(0, 2), 12);
        for (int time = 88; time <= 99; time++) due("truckAt(0, 2) at " + time, oneTruck(time).truckAt(0, 2), 99 - time);
        Counted x = oneTruck(0);
        x.pour(0);
        for (int now = 1; now <= 14; now++) {
            due("truckAt(0, 2), STOCK is 0 at " + now, x.truckAt(0, 2), Math.min(now, 12));
            x.rest(1);
        }
        x = oneTruck(0);
        x.need(0, 2);
        due("truckAt(0, 2), no BEST", x.truckAt(0, 2), NONE);
    }

    /** The other BEGINS 4 after the first is DONE, and so much later as its TRUCK. */
    private static void mayBeLateByHarm() {
        for (int age = 4; age <= 20; age++) {
            Counted x = wall(1, 2);
            x.truck(0, 1);
            x.truck(5, 1);
            x.bound(0, age);
            due("truckAt(1, 2), AGE " + age, x.truckAt(1, 2), Math.min(age - 4, 12));
        }
        Counted y = wall(1, 2);
        y.truck(0, 1);
        y.truck(10, 1);
        due("truckAt(0, 2), later there is less HARM", y.truckAt(0, 2), 2);
        due("truckAt(1, 2), HARM is there already", y.truckAt(1, 2), 12);
        y.truck(50, 1);
        due("truckAt(2, 2), not needed", y.truckAt(2, 2), 12);
    }

    private static void stopped() {
        Counted x = supplied(2, 2);
        told(x, 16, 0);
        x.pour(0);
        told(x, 16, 4);
        x.pour(1);
        told(x, 16, 6);
        x.pour(2);
        told(x, 16, 4);
        x.rest(20);
        // what is a JOINT already is not told twice
        told(x, 10, 2, 4);
        told(x, 16, 4);
        x.pour(3);
        told(x, 16, 4);
    }

    private static void bestStop() {
        Counted x = supplied(2, 2);
        due("stop(0), nothing is POURED", x.stop(0), 0);
        due("stop(1), now", x.stop(1), 0);
        x.pour(0);
        // STOPPED: 4 now, 6 with CELL 1, 4 with 2, 0 with 3
        due("stop(0)", x.stop(0), 0);
        due("stop(1), all", x.stop(1), 3);
        x.bound(1, 0);
        // 1 now, 0 with CELL 1, 1 with 2, 0 with 3
        due("stop(0)", x.stop(0), 0);
        due("stop(1), the fewest", x.stop(1), 1);
        x.rest(7);
        due("stop(0), a JOINT stays", x.stop(0), 1);
        due("stop(1)", x.stop(1), 0);
        x.away(0);
        x.away(0);
        due("stop(0), just enough", x.stop(0), 1);
        x.need(3, 2);
        x.need(2, 2);
        due("stop(0), no BEST", x.stop(0), NONE);
        due("stop(1), no BEST", x.stop(1), NONE);
    }

    // ---- the book

    private static void bookAtMost() {
        Counted x = new Counted();
        told(x, 17, 0, NONE);
        for (int i = 1; i <= 20; i++) due("write(0, false)", x.write(0, false), i);
        told(x, 17, 20, NONE);
        due("write(0, true), the 21st", x.write(0, true), FULL);
        told(x, 17, 20, NONE);
        due("tear()", x.tear(), 20);
        told(x, 17, 0, NONE);
        for (int i = 1; i <= 19; i++) due("write(1, false)", x.write(1, false), i);
        due("write(0, true), the 20th", x.write(0, true), 20);
        told(x, 17, 20, 19);
    }

    private static void wrongIsTheFirst() {
        Counted x = supplied(3, 2);
        told(x, 18, NONE);
        x.write(14, false);
        x.write(0, false);
        x.write(1, true);
        x.write(3, true);
        told(x, 18, 2);
        x.pour(0);
        x.rest(7);
        told(x, 18, 1);
        x.undo(1);
        told(x, 18, 2);
    }

    private static void wrongIfNoMore() {
        for (boolean joint : new boolean[] {false, true}) {
            Counted x = supplied(3, 2);
            x.pour(0);
            if (joint) x.rest(7);
            due("write(1)", x.write(1, joint), 1);
            told(x, 18, NONE);
            x.build(1, 2);
            told(x, 17, 1, 0);
            x.build(2, 1);
            told(x, 17, 1, joint ? 0 : NONE);
            x.build(1, 1);
            told(x, 17, 1, 0);
            x.undo(3);
            told(x, 17, 1, NONE);
        }
    }

    private static void noBook() {
        Counted x = new Counted();
        due("tear(), none", x.tear(), 0);
        x.write(0, true);
        due("tear()", x.tear(), 1);
        due("tear(), none", x.tear(), 0);
        told(x, 17, 0, NONE);
        told(x, 19, 0);
    }

    // ---- by draws

    private static final BigInteger TIMES = BigInteger.valueOf(1103515245), PLUS = BigInteger.valueOf(12345);

    private static int seedBehind(int seed, int draws) {
        BigInteger s = BigInteger.valueOf(seed);
        for (int i = 0; i < draws; i++) s = s.multiply(TIMES).add(PLUS).mod(BigInteger.TWO.pow(31));
        return s.intValueExact();
    }

    private static void seedWrapsAround() {
        due("seed(0), at first", new Counted().seed(0), 0);
        for (int seed : new int[] {0, 1, 2, 65535, 65536, 1073741823, 1073741824, MOST - 1, MOST}) {
            Counted x = wall(1, 1);
            x.seed(seed);
            x.drift(1);
            due("THE SEED behind four DRAWS from " + seed, x.seed(seed), seedBehind(seed, 4));
            x.drift(20);
            due("THE SEED behind 80 DRAWS from " + seed, x.seed(0), seedBehind(seed, 80));
        }
    }

    /** A SEED from which the four DRAWS are these; -1: any. */
    private static int seedFor(int cells, int what, int c, int third, int fourth) {
        int[] of = {4, cells, 30, 4};
        int[] want = {what, c, third, fourth};
        for (int seed = 0; seed < 1000000; seed++) {
            long s = seed;
            boolean fits = true;
            for (int i = 0; i < 4; i++) {
                s = (s * 1103515245L + 12345L) % 2147483648L;
                fits &= want[i] == -1 || s / 65536 % of[i] == want[i];
            }
            if (fits) return seed;
        }
        throw new IllegalStateException("no such SEED");
    }

    private static int driftOnce(Counted x, int what, int c, int third, int fourth) {
        int seed = seedFor(x.told(0) * x.told(1), what, c, third, fourth);
        x.seed(seed);
        int undone = x.told(19);
        int poured = x.drift(1);
        due("told(19), a deed even if nothing comes of it", x.told(19), Math.min(undone + 1, 20));
        due("THE SEED, four DRAWS each time", x.seed(0), seedBehind(seed, 4));
        return poured;
    }

    private static void truckByDraw() {
        for (int what = 0; what <= 1; what++) {
            Counted x = wall(1, 1);
            driftOnce(x, what, -1, 0, 0);
            due("truckAt(0, 0)", x.truckAt(0, 0), 0);
            due("truckAt(0, 1), the least", x.truckAt(0, 1), 1);
            restUntil(x, 70);
            driftOnce(x, what, -1, 29, 3);
            told(x, 3, 2);
            due("truckAt(1, 0), 99", x.truckAt(1, 0), 99);
            due("truckAt(1, 1), the most", x.truckAt(1, 1), 4);
            x.rest(1);
            driftOnce(x, what, -1, 29, 3);
            told(x, 3, 2);
            driftOnce(x, what, -1, 28, 0);
            due("truckAt(2, 0), 99", x.truckAt(2, 0), 99);
            restUntil(x, 99);
            driftOnce(x, what, -1, 1, 0);
            told(x, 3, 3);
            driftOnce(x, what, -1, 0, 0);
            due("truckAt(3, 0), 99", x.truckAt(3, 0), 99);
            x.rest(1);
            driftOnce(x, what, -1, 0, 0);
            told(x, 3, 4);
        }
    }

    private static void truckByDrawIfRoom() {
        for (int what = 0; what <= 1; what++) {
            Counted x = wall(1, 1);
            for (int k = 0; k < 8; k++) x.truck(k, 1);
            driftOnce(x, what, -1, 5, 2);
            told(x, 3, 9);
            due("truckAt(8, 0)", x.truckAt(8, 0), 5);
            due("truckAt(8, 1)", x.truckAt(8, 1), 3);
            String before = x.section1();
            driftOnce(x, what, -1, 5, 2);
            alike("no room", x.section1(), before);
        }
    }

    private static void pourByDraw() {
        Counted x = wall(1, 2);
        due("drift(1), no TRUCKS", driftOnce(x, 2, 0, -1, -1), 0);
        x.truck(3, 1);
        String before = x.section1();
        due("drift(1), nothing below", driftOnce(x, 2, 1, -1, -1), 0);
        alike("nothing below", x.section1(), before);
        due("drift(1)", driftOnce(x, 2, 0, -1, -1), 1);
        told(x, 2, 4, 1, 0, 1);
        before = x.section1();
        due("drift(1), POURED already", driftOnce(x, 2, 0, -1, -1), 1);
        due("drift(1), not enough comes", driftOnce(x, 2, 1, -1, -1), 1);
        alike("it cannot be", x.section1(), before);
        x.truck(0, 1);
        due("drift(1)", driftOnce(x, 2, 1, -1, -1), 2);
        told(x, 2, 5, 2, 0, 3);
    }

    private static void needByDraw() {
        Counted x = wall(1, 2);
        x.truck(0, 4);
        int[] needed = {1, 1, 2, 3};
        for (int fourth : new int[] {3, 0, 2, 1, 3}) {
            driftOnce(x, 3, 1, -1, fourth);
            due("cell(1, 0), drawn " + fourth, x.cell(1, 0), needed[fourth]);
            due("cell(0, 0)", x.cell(0, 0), 1);
        }
        x.pour(0);
        driftOnce(x, 3, 0, -1, 3);
        due("cell(0, 0), POURED", x.cell(0, 0), 1);
        told(x, 4, 3);
    }

    private static void driftsOneToTwenty() {
        Counted once = new Counted(), many = new Counted();
        due("drift(21)", many.drift(21), OUTSIDE);
        due("drift(0)", many.drift(0), OUTSIDE);
        for (int turn = 0; turn < 3; turn++) {
            int poured = 0;
            for (int i = 0; i < 20; i++) poured = once.drift(1);
            due("drift(20)", many.drift(20), poured);
            alike("twenty times drift(1)", many.section1(), once.section1());
        }
        due("seed(0)", many.seed(0), seedBehind(0, 240));
    }

    // ---- undone, images

    private static void deedsOfEachKind() {
        Call[] deeds = {x -> x.build(3, 2), x -> x.build(1, 3), x -> x.truck(99, 4), x -> x.late(0, 0), x -> x.late(1, 4), x -> x.away(1),
            x -> x.need(3, 3), x -> x.need(3, 1), x -> x.bound(0, 1), x -> x.bound(1, 9), x -> x.bound(2, 0), x -> x.pour(1), x -> x.rest(40),
            x -> x.follow(), x -> x.drift(1)};
        for (int i = 0; i < deeds.length; i++) {
            Counted x = someSite();
            String before = x.section1();
            due("deed " + i, deeds[i].on(x) > UNKNOWN ? 1 : 0, 1);
            told(x, 19, 3);
            due("undo(1) of deed " + i, x.undo(1), 3);
            told(x, 19, 2);
            alike("deed " + i + " undone", x.section1(), before);
        }
        Call[] others = {x -> x.seed(9), x -> x.write(0, true), x -> x.tear(), x -> x.told(15), x -> x.best(0), x -> x.stop(0), x -> x.undo(1)};
        for (int i = 0; i < others.length; i++) {
            Counted x = someSite();
            others[i].on(x);
            due("told(19), no deed " + i, x.told(19), i == 6 ? 1 : 2);
        }
    }

    private static void twentyAreKept() {
        for (int deeds = 0; deeds <= 45; deeds++) {
            Counted x = new Counted();
            for (int i = 0; i < deeds; i++) x.rest(1);
            int kept = Math.min(deeds, 20);
            told(x, 19, kept);
            if (kept < 20) due("undo(" + (kept + 1) + ")", x.undo(kept + 1), NOT);
            if (kept > 0) due("undo(" + kept + ") of " + deeds, x.undo(kept), deeds - kept);
            told(x, 19, 0);
            due("undo(1)", x.undo(1), NOT);
            told(x, 2, deeds - kept);
        }
        Counted x = new Counted();
        x.rest(30);
        due("drift(20)", x.drift(20) >= 0 ? 1 : 0, 1);
        told(x, 19, 20);
        due("undo(20), each of the times", x.undo(20), 30);
        due("undo(1), 20 at most", x.undo(1), NOT);
    }

    private static void undoneOneToTwenty() {
        for (int n = 1; n <= 20; n++) {
            Counted x = new Counted();
            for (int i = 0; i < 30; i++) x.rest(2);
            due("undo(" + n + ")", x.undo(n), 60 - 2 * n);
            told(x, 19, 20 - n);
            due("rest(7)", x.rest(7), 67 - 2 * n);
            told(x, 19, 21 - n);
            due("undo(1)", x.undo(1), 60 - 2 * n);
            if (n < 20) due("undo(" + (20 - n) + ")", x.undo(20 - n), 20);
            due("undo(1), not so many", x.undo(1), NOT);
        }
        Counted x = new Counted();
        due("undo(21)", x.undo(21), OUTSIDE);
        due("undo(0)", x.undo(0), OUTSIDE);
    }

    private static void sinceTheImage() {
        Counted x = new Counted();
        for (int i = 0; i < 5; i++) x.rest(1);
        due("keep(0)", x.keep(0), 1);
        told(x, 19, 0);
        due("undo(1), kept", x.undo(1), NOT);
        x.rest(1);
        due("undo(2), one since", x.undo(2), NOT);
        due("goBack(0)", x.goBack(0), 1);
        told(x, 19, 0);
        due("undo(1), gone back", x.undo(1), NOT);
        x.rest(3);
        x.rest(4);
        due("keep(0), not an IMAGE to be undone", x.undo(2), 5);
        due("undo(1)", x.undo(1), NOT);
    }

    private static void seedStays() {
        Counted x = new Counted();
        x.seed(12);
        x.drift(3);
        x.undo(3);
        due("seed(0), not undone", x.seed(0), seedBehind(12, 12));
        x.rest(1);
        x.seed(MOST);
        x.undo(1);
        due("seed(0), not undone", x.seed(0), MOST);
    }

    private static void bookStays() {
        Counted x = new Counted();
        x.keep(0);
        x.rest(1);
        x.write(0, true);
        x.undo(1);
        told(x, 17, 1, 0);
        x.goBack(0);
        told(x, 17, 1, 0);
    }

    private static void images() {
        Counted x = new Counted();
        x.seed(8);
        due("keep(0), at first", x.keep(0), 1);
        String first = x.section1();
        x.build(2, 3);
        x.bound(0, 40);
        x.bound(1, 0);
        x.bound(2, 9);
        x.need(5, 3);
        for (int k = 0; k < 9; k++) x.truck(k, 4);
        x.pour(1);
        x.seed(MOST);
        due("keep(1)", x.keep(1), 1);
        String second = x.section1();
        x.build(3, 3);
        x.seed(0);
        told(x, 13, NONE);
        due("goBack(0)", x.goBack(0), 1);
        alike("IMAGE 0", x.section1(), first);
        due("seed(3)", x.seed(3), 8);
        due("goBack(1)", x.goBack(1), 1);
        alike("IMAGE 1", x.section1(), second);
        due("seed(3)", x.seed(3), MOST);
        x.pour(0);
        due("goBack(1), once more", x.goBack(1), 1);
        alike("IMAGE 1, kept still", x.section1(), second);
        due("keep(0), over what was kept", x.keep(0), 1);
        x.build(1, 1);
        due("goBack(0)", x.goBack(0), 1);
        alike("IMAGE 0 anew", x.section1(), second);
    }

    private static void seedBounds() {
        Counted x = new Counted();
        due("seed(2147483647)", x.seed(2147483647), 0);
        due("seed(-1)", x.seed(-1), OUTSIDE);
        due("seed(0)", x.seed(0), 2147483647);
        due("seed(-2147483648)", x.seed(LEAST), OUTSIDE);
        due("seed(1)", x.seed(1), 0);
    }

    // ---- promises

    private static void atFirst() {
        Counted x = new Counted();
        told(x, 0, 3, 2, 0, 0, 0, 0, 0, 6, 3, 1, 0, 0, NONE, NONE, NONE, NONE, 0, 0, NONE, 0);
        due("goBack(0)", x.goBack(0), NOT);
        due("goBack(1)", x.goBack(1), NOT);
        due("undo(1)", x.undo(1), NOT);
        due("seed(0)", x.seed(0), 0);
        due("tear()", x.tear(), 0);
        due("best(0)", x.best(0), NONE);
    }

    private static void cellNotPoured() {
        Counted x = supplied(1, 2);
        for (int c = 0; c < 2; c++) for (int what = 1; what <= 2; what++) due("cell(" + c + ", " + what + ")", x.cell(c, what), NONE);
        x.pour(0);
        due("cell(0, 1), BEGAN at 0", x.cell(0, 1), 0);
        due("cell(0, 2)", x.cell(0, 2), 1);
        due("cell(1, 1)", x.cell(1, 1), NONE);
        due("cell(1, 2)", x.cell(1, 2), NONE);
        x.undo(1);
        due("cell(0, 1), undone", x.cell(0, 1), NONE);
    }

    private static void cellCannotBePoured() {
        Counted x = wall(1, 2);
        due("cell(0, 3), no TRUCKS", x.cell(0, 3), NONE);
        due("cell(0, 4), no TRUCKS", x.cell(0, 4), NONE);
        x.truck(8, 1);
        due("cell(0, 3)", x.cell(0, 3), 8);
        due("cell(0, 4)", x.cell(0, 4), 0);
        due("cell(1, 3), nothing below", x.cell(1, 3), NONE);
        due("cell(1, 4), nothing below", x.cell(1, 4), NONE);
        x.pour(0);
        due("cell(0, 3), POURED", x.cell(0, 3), NONE);
        due("cell(0, 4), POURED", x.cell(0, 4), NONE);
        due("cell(1, 3), not enough", x.cell(1, 3), NONE);
        due("cell(1, 4), not enough", x.cell(1, 4), NONE);
        x.truck(15, 1);
        due("cell(1, 3), at AGE", x.cell(1, 3), 15);
        due("cell(1, 4), at AGE", x.cell(1, 4), 0);
        x.late(1, 1);
        due("cell(1, 4), one later", x.cell(1, 4), 3);
        told(x, 2, 9);
    }

    /** Behind a CELL that takes long, others' EDGES are older. */
    private static void harmBehindIt() {
        Counted x = supplied(2, 2);
        x.pour(0);
        x.bound(0, 2);
        x.need(1, 2);
        due("cell(1, 4), the top of 0 is AGE old", x.cell(1, 4), 0);
        x.need(1, 3);
        due("cell(1, 4), one older", x.cell(1, 4), 3);
        due("pour(1)", x.pour(1), 3);
    }

    private static void asTheyCame() {
        Counted x = wall(1, 1);
        x.truck(9, 1);
        x.truck(3, 2);
        x.truck(9, 3);
        x.late(2, -9);
        int[] times = {9, 3, 0};
        for (int k = 0; k < 3; k++) {
            due("truckAt(" + k + ", 0)", x.truckAt(k, 0), times[k]);
            due("truckAt(" + k + ", 1)", x.truckAt(k, 1), k + 1);
        }
    }

    private static void lateBounds() {
        Counted x = wall(1, 1);
        x.truck(0, 1);
        due("late(0, 99), the most", x.late(0, 99), 99);
        due("late(0, 1), behind 99", x.late(0, 1), OUTSIDE);
        due("late(0, -99), the least", x.late(0, -99), 0);
        due("late(0, -1), ahead of 0", x.late(0, -1), OUTSIDE);
        due("late(0, 0)", x.late(0, 0), 0);
        due("late(0, 100)", x.late(0, 100), OUTSIDE);
        due("late(0, -100)", x.late(0, -100), OUTSIDE);
        due("late(0, 50)", x.late(0, 50), 50);
        due("late(0, 50)", x.late(0, 50), OUTSIDE);
        due("late(0, -51)", x.late(0, -51), OUTSIDE);
        due("late(0, 49)", x.late(0, 49), 99);
    }

    private static void stockNotBelow0() {
        Counted x = wall(2, 1);
        x.truck(0, 1);
        x.pour(0);
        due("late(0, 1), just now", x.late(0, 1), 1);
        told(x, 4, 0);
        due("late(0, 1), behind now", x.late(0, 1), NOT);
        due("away(0)", x.away(0), NOT);
        x.truck(2, 1);
        due("away(0), the other comes later", x.away(0), NOT);
        due("late(0, 1), the other comes later", x.late(0, 1), NOT);
        x.rest(1);
        due("late(0, 98), the other is there", x.late(0, 98), 99);
        due("late(1, 1)", x.late(1, 1), NOT);
        due("away(1)", x.away(1), NOT);
        due("away(0)", x.away(0), 1);
        told(x, 3, 1, 0);
    }

    private static void oneNumberLess() {
        for (int gone = 0; gone < 9; gone++) {
            Counted x = wall(1, 1);
            for (int k = 0; k < 9; k++) x.truck(10 * k, 1 + k % 4);
            due("away(" + gone + ")", x.away(gone), 8);
            for (int k = 0; k < 8; k++) {
                int was = k < gone ? k : k + 1;
                due("truckAt(" + k + ", 0)", x.truckAt(k, 0), 10 * was);
                due("truckAt(" + k + ", 1)", x.truckAt(k, 1), 1 + was % 4);
            }
            due("truckAt(8, 0)", x.truckAt(8, 0), UNKNOWN);
            for (int left = 7; left >= 0; left--) due("away(0)", x.away(0), left);
            due("away(0), none is left", x.away(0), UNKNOWN);
        }
    }

    private static void restBounds() {
        Counted x = restUntil(new Counted(), 9958);
        due("rest(40)", x.rest(40), 9998);
        due("rest(2)", x.rest(2), NOT);
        due("rest(1), just 9999", x.rest(1), 9999);
        due("rest(1)", x.rest(1), NOT);
        due("rest(40)", x.rest(40), NOT);
        x.undo(1);
        due("rest(0)", x.rest(0), OUTSIDE);
        due("rest(41)", x.rest(41), OUTSIDE);
        x.truck(0, 4);
        x.need(0, 3);
        due("pour(0), behind 9999", x.pour(0), 0);
        told(x, 2, 10001);
        due("rest(1)", x.rest(1), NOT);
    }

    private static void followsBest() {
        Counted x = wall(3, 3);
        x.bound(0, 4);
        for (int k = 0; k < 9; k++) x.truck(2 * k, 1);
        for (int c : new int[] {0, 1, 3, 4, 6, 7, 2, 5, 8}) {
            due("best(0)", x.best(0), c);
            due("follow()", x.follow(), c);
        }
        due("follow(), nothing is left", x.follow(), NOT);
        told(x, 2, 17);
        told(x, 11, 3);
    }

    private static void bestNotSoMany() {
        Counted x = new Counted();
        for (int i : new int[] {0, 1, 8, -1, LEAST, MOST}) due("best(" + i + "), no BEST", x.best(i), NONE);
        x.build(3, 3);
        for (int k = 0; k < 3; k++) x.truck(0, 3);
        order(x, 0, 1, 2, 3, 4, 5, 6, 7, 8);
        for (int i : new int[] {-1, 9, 10, LEAST, MOST}) due("best(" + i + ")", x.best(i), NONE);
        x.pour(0);
        due("best(7)", x.best(7), 8);
        due("best(8), not so many", x.best(8), NONE);
    }

    private static void edgeYesAndNo() {
        Counted x = supplied(1, 2);
        due("edge(0, 0)", x.edge(0, 0), 0);
        due("edge(0, 1)", x.edge(0, 1), 0);
        x.pour(0);
        due("edge(0, 0)", x.edge(0, 0), 1);
        due("edge(0, 1)", x.edge(0, 1), 0);
        x.rest(7);
        due("edge(0, 0)", x.edge(0, 0), 1);
        due("edge(0, 1)", x.edge(0, 1), 1);
        x.pour(1);
        due("edge(0, 0)", x.edge(0, 0), 0);
        due("edge(0, 1)", x.edge(0, 1), 1);
        x.bound(0, 7);
        due("edge(0, 1), AGE is what it was old", x.edge(0, 1), 0);
    }

    private static void truckBounds() {
        for (int time : new int[] {0, 1, 98, 99}) {
            for (int loads = 1; loads <= 4; loads++) {
                Counted x = new Counted();
                due("truck(" + time + ", " + loads + ")", x.truck(time, loads), 0);
                due("truckAt(0, 0)", x.truckAt(0, 0), time);
                due("truckAt(0, 1)", x.truckAt(0, 1), loads);
                told(x, 3, 1, time == 0 ? loads : 0);
            }
        }
        Counted x = restUntil(wall(1, 1), 100);
        due("truck(0, 1), long ago", x.truck(0, 1), 0);
        told(x, 4, 1);
    }

    private static void needBounds() {
        Counted x = supplied(2, 1);
        int was = 1;
        for (int loads : new int[] {1, 2, 3, 3, 1, 3, 2, 2, 1}) {
            due("need(1, " + loads + ")", x.need(1, loads), was);
            due("cell(1, 0)", x.cell(1, 0), loads);
            was = loads;
        }
        x.pour(1);
        due("need(1, 1), POURED", x.need(1, 1), NOT);
        due("need(0, 3), not POURED", x.need(0, 3), 1);
        x.undo(2);
        due("need(1, 2), no more POURED", x.need(1, 2), 1);
    }

    private static void boundBounds() {
        Counted x = new Counted();
        int was = 6;
        for (int v = 1; v <= 40; v++) {
            due("bound(0, " + v + ")", x.bound(0, v), was);
            told(x, 7, v);
            was = v;
        }
        told(x, 8, 3, 1);
        for (int what = 1; what <= 2; what++) {
            was = what == 1 ? 3 : 1;
            for (int v = 0; v <= 9; v++) {
                due("bound(" + what + ", " + v + ")", x.bound(what, v), was);
                due("told(" + (7 + what) + ")", x.told(7 + what), v);
                was = v;
            }
        }
        told(x, 7, 40, 9, 9);
    }

    private static void pourTellsHarm() {
        Counted x = supplied(2, 2);
        due("pour(0)", x.pour(0), 0);
        x.rest(6);
        // the side of 0 is covered at AGE; its top is one older when 1 is DONE
        due("pour(1)", x.pour(1), 3);
        due("pour(2)", x.pour(2), 3);
        due("pour(3)", x.pour(3), 3);
        told(x, 11, 3);
    }

    private static void restOneToForty() {
        Counted x = new Counted();
        for (int n = 1; n <= 40; n++) {
            due("rest(" + n + ")", x.rest(n), n);
            x.undo(1);
        }
    }

    private static void stopOrNone() {
        Counted x = wall(2, 1);
        due("stop(0), no BEST", x.stop(0), NONE);
        due("stop(1), no BEST", x.stop(1), NONE);
        x.truck(0, 2);
        x.pour(0);
        due("stop(0)", x.stop(0), 0);
        due("stop(1)", x.stop(1), 1);
        x.pour(1);
        due("stop(0), nothing is left", x.stop(0), 0);
        due("stop(1), nothing is left", x.stop(1), 0);
    }

    private static void entriesBehind() {
        Counted x = new Counted();
        for (int i = 1; i <= 20; i++) {
            due("write(" + (i % 2) + ")", x.write(i % 2, i == 20), i);
            told(x, 17, i, i == 20 ? 19 : NONE);
        }
        due("write(0, false)", x.write(0, false), FULL);
        told(x, 19, 0);
    }

    private static void nothingToUndoKept() {
        for (int i = 0; i < 2; i++) {
            Counted x = new Counted();
            due("keep(" + i + "), nothing to undo", x.keep(i), 1);
            for (int n = 0; n < 22; n++) x.rest(1);
            due("keep(" + i + ")", x.keep(i), 1);
            told(x, 19, 0);
            due("undo(1)", x.undo(1), NOT);
            told(x, 2, 22);
            due("rest(1)", x.rest(1), 23);
            told(x, 19, 1);
        }
    }

    private static void nothingToUndoGoneBack() {
        for (int i = 0; i < 2; i++) {
            Counted x = new Counted();
            x.keep(i);
            due("goBack(" + (1 - i) + "), the other", x.goBack(1 - i), NOT);
            for (int n = 0; n < 22; n++) x.rest(1);
            due("goBack(" + i + ")", x.goBack(i), 1);
            told(x, 19, 0);
            due("undo(1)", x.undo(1), NOT);
            told(x, 2, 0);
            due("goBack(" + i + "), nothing to undo", x.goBack(i), 1);
        }
    }

    private static void terms() {
        sentence("An object is used for at most 512 calls after it has been made", BoundaryTest::callsAtMost);
        sentence("What has a number has it from 0 on.", BoundaryTest::numbersFrom0);
        sentence("A SET is a whole number, bit k for k (of CELLS, if nothing else is told).", BoundaryTest::sets);
        sentence("NONE is -1.", BoundaryTest::noneIs);
    }

    private static void section1() {
        sentence("THE WALL has STRIPS (1 .. 3; 3 at first) and LAYERS (1 .. 3; 2 at first).", BoundaryTest::stripsAndLayers);
        sentence("CELL c is in STRIP (c left over by how many STRIPS there are) and LAYER (c by these, cut), LAYER 0 below.",
            BoundaryTest::stripAndLayerOfCells);
        sentence("A CELL needs so many LOADS (1 .. 3; 1 at first).", BoundaryTest::needsOfCells);
        sentence("TIME is 0 at first.", BoundaryTest::timeAtFirst);
        sentence("TRUCKS (9 at most; none at first) come at a TIME (0 .. 99), with LOADS (1 .. 4).", BoundaryTest::trucksAtMost);
        sentence("LOADS of all TRUCKS that come then or earlier, less what POURED CELLS needed.", BoundaryTest::stockAtATime);
        sentence("POURED: a CELL that is not, if that below it (if there is one) is;", BoundaryTest::pouredIf);
        sentence("it BEGINS at the least TIME, not before now, at which STOCK is what it needs or more;", BoundaryTest::beginsAt);
        sentence("it is DONE as many TIMES later as it needs LOADS; TIME is then that.", BoundaryTest::doneAt);
        sentence("(It cannot, if all TRUCKS do not bring enough.)", BoundaryTest::notEnough);
        sentence("EDGES: number 3 c: the top of CELL c, if there is a CELL above; 3 c and 1: its right side, if there is a CELL beside it"
            + " in the next STRIP; 3 c and 2: its left side, if there is one in the STRIP ahead.", BoundaryTest::edgesThereAre);
        sentence("(if that is POURED already, it is never OPEN)", BoundaryTest::openFromUntil);
        sentence("It SETS, if that BEGINS more than AGE (1 .. 40; 6 at first) after the EDGE'S CELL was DONE", BoundaryTest::setsMoreThanAge);
        sentence("one that is OPEN and older than AGE at TIME is a JOINT already.", BoundaryTest::openAndOlder);
        sentence("HEAVY (0 .. 9; 3 at first) for a top, LIGHT (0 .. 9; 1 at first) for a side. HARM: of all JOINTS together.",
            BoundaryTest::harmOfJoints);
        sentence("BUILT: other STRIPS, LAYERS: TIME 0, nothing POURED, all need 1, no TRUCKS.", BoundaryTest::builtAnew);
        sentence("WAITED: TIME is so much more.", BoundaryTest::waited);
    }

    private static void section2() {
        sentence("each such that it can be POURED when it comes, without WAITING besides.", BoundaryTest::withoutWaiting);
        sentence("(with what is a JOINT now)", BoundaryTest::withJointsNow);
        sentence("of like ones that of the least TIME at the end;", BoundaryTest::bestByHarmThenTime);
        sentence("of like ones the first, CELL by CELL the lesser number.", BoundaryTest::firstOfLike);
        sentence("NONE: there is none (not enough comes).", BoundaryTest::noBest);
        sentence("ORDERS of all CELLS that are not POURED", BoundaryTest::nothingLeft);
    }

    private static void section3() {
        sentence("ASKED, nothing changes by it.", BoundaryTest::nothingChangesByAsking);
        sentence("CAN: CELLS that can be POURED now.", BoundaryTest::canBePoured);
        sentence("AGE less how old it is; -1000: none such.", BoundaryTest::leftOfEdges);
        sentence("the OPEN EDGE, no JOINT, with the least LEFT;", BoundaryTest::firstToSet);
        sentence("with the least LEFT; of like ones the least; NONE.", BoundaryTest::firstToSetOfLike);
        sentence("WAITED n, HARM of BEST is what it is now; NONE: no BEST.", BoundaryTest::mayWait);
        sentence("MAY WAIT: the greatest n (0 .. 12)", BoundaryTest::mayWaitTheGreatest);
        sentence("(at 99 at most, STOCK now not below 0 by it)", BoundaryTest::mayBeLateAtMost);
        sentence("MAY BE LATE, a TRUCK: the greatest n (0 .. 12)", BoundaryTest::mayBeLateByHarm);
        sentence("STOPPED: if nothing more is POURED, all OPEN EDGES become JOINTS: HARM then.", BoundaryTest::stopped);
        sentence("none to all, the least HARM, STOPPED there; the fewest CELLS for it (0 of them: now); NONE: no BEST.", BoundaryTest::bestStop);
        sentence("THE BOOK (20 at most)", BoundaryTest::bookAtMost);
        sentence("WRONG: the first that is otherwise now", BoundaryTest::wrongIsTheFirst);
        sentence("(one that there is no more: it is, too); NONE.", BoundaryTest::wrongIfNoMore);
    }

    private static void drawsAndImages() {
        sentence("THE SEED (0 at first: each DRAW it becomes it times 1103515245 and 12345, left over by 2 to the 31;", BoundaryTest::seedWrapsAround);
        sentence("with the fourth and 1 LOADS (if there is room, and that TIME is 99 at most)", BoundaryTest::truckByDraw);
        sentence("(if there is room,", BoundaryTest::truckByDrawIfRoom);
        sentence("on 2 that CELL is POURED (if it can be)", BoundaryTest::pourByDraw);
        sentence("on 3 it needs the fourth, 1 at least (if it is not POURED).", BoundaryTest::needByDraw);
        sentence("UNDONE: the latest deeds (build(), truck(), late(), away(), need(), bound(), pour(), rest(), follow(), each of the times BY DRAWS)",
            BoundaryTest::deedsOfEachKind);
        sentence("since the IMAGE", BoundaryTest::sinceTheImage);
        sentence("(20 at most are kept)", BoundaryTest::twentyAreKept);
        sentence("THE SEED stays.", BoundaryTest::seedStays);
        sentence("all of section 1 is as ahead of them", BoundaryTest::bookStays);
        sentence("IMAGES 0, 1 keep all of section 1, THE SEED.", BoundaryTest::images);
    }

    private static void promises() {
        sentence("`PourPlan()`: As told at first.", BoundaryTest::atFirst);
        sentence("13 HARM of BEST, 14 TIME at its end (13, 14: NONE)", BoundaryTest::justEnoughForTheMost);
        sentence("2 when it was DONE (NONE: not POURED)", BoundaryTest::cellNotPoured);
        sentence("3 when it would BEGIN now (NONE: it cannot be POURED)", BoundaryTest::cellCannotBePoured);
        sentence("4 HARM then, behind it (NONE)", BoundaryTest::harmBehindIt);
        sentence("0 1 it is OPEN, 0 not, 1 1 it is a JOINT, 0 not", BoundaryTest::edgeYesAndNo);
        sentence("Of a TRUCK, as they came into the list", BoundaryTest::asTheyCame);
        sentence("A TRUCK comes (TIME 0 .. 99; LOADS 1 .. 4): its number.", BoundaryTest::truckBounds);
        sentence("A TRUCK comes n later (-99 .. 99; its TIME 0 .. 99)", BoundaryTest::lateBounds);
        sentence("NOT: STOCK would be below 0 now.", BoundaryTest::stockNotBelow0);
        sentence("A TRUCK does not come (later ones have one number less): how many are left.", BoundaryTest::oneNumberLess);
        sentence("A CELL needs LOADS (1 .. 3): what it needed.", BoundaryTest::needBounds);
        sentence("what = 0 AGE, 1 HEAVY, 2 LIGHT becomes v: what it was.", BoundaryTest::boundBounds);
        sentence("POURED: HARM then.", BoundaryTest::pourTellsHarm);
        sentence("WAITED n (1 .. 40): TIME.", BoundaryTest::restOneToForty);
        sentence("NOT: TIME would be above 9999.", BoundaryTest::restBounds);
        sentence("The first CELL of BEST is POURED: that CELL.", BoundaryTest::followsBest);
        sentence("n times BY DRAWS (1 .. 20)", BoundaryTest::driftsOneToTwenty);
        sentence("The n latest (1 .. 20) are undone: TIME.", BoundaryTest::undoneOneToTwenty);
        sentence("The i-th CELL of BEST; NONE: not so many, no BEST.", BoundaryTest::bestNotSoMany);
        sentence("BEST STOP: what = 0 the least HARM, 1 the fewest CELLS; NONE.", BoundaryTest::stopOrNone);
        sentence("An entry behind THE BOOK: how many.", BoundaryTest::entriesBehind);
        sentence("No BOOK: how much it had.", BoundaryTest::noBook);
        sentence("THE SEED becomes v (0 .. 2147483647): what it was.", BoundaryTest::seedBounds);
        sentence("IMAGE i becomes what is so (nothing can be undone then): 1.", BoundaryTest::nothingToUndoKept);
        sentence("What is so becomes IMAGE i (nothing can be undone then): 1.", BoundaryTest::nothingToUndoGoneBack);
    }

    public static void main(String[] args) throws Exception {
        read();
        terms();
        section1();
        section2();
        section3();
        drawsAndImages();
        promises();
        end();
    }
}
