import java.util.ArrayDeque;
import java.util.ArrayList;
import java.util.Deque;
import java.util.List;
import java.util.Random;

/** Random runs of calls, each answer against that of a slow model written straight from the document. */
public final class OracleTest {
    private static final int NONE = -1, UNKNOWN = -1000000001, OUTSIDE = -1000000002, NOT = -1000000003, FULL = -1000000004;

    /** Section 1, copied whole at each step. */
    private static final class State {
        int strips = 3, layers = 2, time = 0, age = 6, heavy = 3, light = 1;
        List<Integer> needs = new ArrayList<>(List.of(1, 1, 1, 1, 1, 1));
        List<int[]> trucks = new ArrayList<>();
        /** CELL, BEGAN, DONE, as they were POURED. */
        List<int[]> pours = new ArrayList<>();

        State copy() {
            State s = new State();
            s.strips = strips; s.layers = layers; s.time = time; s.age = age; s.heavy = heavy; s.light = light;
            s.needs = new ArrayList<>(needs);
            for (int[] t : trucks) s.trucks.add(t.clone());
            s.pours = new ArrayList<>(pours);
            return s;
        }

        int cells() { return strips * layers; }

        int[] pourOf(int c) {
            for (int[] p : pours) if (p[0] == c) return p;
            return null;
        }

        int stockAt(int t) {
            int sum = 0;
            for (int[] k : trucks) if (k[0] <= t) sum += k[1];
            for (int[] p : pours) sum -= needs.get(p[0]);
            return sum;
        }

        /** Looks at TIME after TIME, as the words say. */
        int begin(int c) {
            if (pourOf(c) != null) return NONE;
            if (c / strips > 0 && pourOf(c - strips) == null) return NONE;
            for (int t = time; t <= Math.max(time, 99); t++) if (stockAt(t) >= needs.get(c)) return t;
            return NONE;
        }

        State poured(int c) {
            int b = begin(c);
            State s = copy();
            s.pours.add(new int[] {c, b, b + needs.get(c)});
            s.time = b + needs.get(c);
            return s;
        }

        int other(int e) {
            if (e < 0 || e / 3 >= cells()) return NONE;
            int c = e / 3, strip = c % strips, layer = c / strips;
            if (e % 3 == 0) layer++;
            if (e % 3 == 1) strip++;
            if (e % 3 == 2) strip--;
            if (strip < 0 || strip >= strips || layer >= layers) return NONE;
            return layer * strips + strip;
        }

        boolean open(int e) {
            return other(e) != NONE && pourOf(e / 3) != null && pourOf(other(e)) == null;
        }

        boolean joint(int e) {
            if (other(e) == NONE || pourOf(e / 3) == null) return false;
            if (open(e)) return time - pourOf(e / 3)[2] > age;
            boolean otherFirst = pours.indexOf(pourOf(other(e))) < pours.indexOf(pourOf(e / 3));
            return !otherFirst && pourOf(other(e))[1] - pourOf(e / 3)[2] > age;
        }

        int left(int e) {
            return open(e) && !joint(e) ? age - (time - pourOf(e / 3)[2]) : -1000;
        }

        int weight(int e) { return e % 3 == 0 ? heavy : light; }

        int joints() {
            int n = 0;
            for (int e = 0; e < 3 * cells(); e++) if (joint(e)) n++;
            return n;
        }

        int harm() {
            int n = 0;
            for (int e = 0; e < 3 * cells(); e++) if (joint(e)) n += weight(e);
            return n;
        }

        int stopped() {
            int n = 0;
            for (int e = 0; e < 3 * cells(); e++) if (joint(e) || open(e)) n += weight(e);
            return n;
        }

        int firstToSet() {
            int first = NONE;
            for (int e = 3 * cells() - 1; e >= 0; e--) {
                if (left(e) != -1000 && (first == NONE || left(e) <= left(first))) first = e;
            }
            return first;
        }

        List<List<Integer>> orders() {
            List<List<Integer>> all = new ArrayList<>();
            if (pours.size() == cells()) all.add(List.of());
            for (int c = 0; c < cells(); c++) {
                if (begin(c) == NONE) continue;
                for (List<Integer> rest : poured(c).orders()) {
                    List<Integer> order = new ArrayList<>(List.of(c));
                    order.addAll(rest);
                    all.add(order);
                }
            }
            return all;
        }

        /** HARM, TIME, then the CELLS; null: no BEST. */
        List<Integer> best() {
            List<Integer> best = null;
            for (List<Integer> order : orders()) {
                State s = this;
                for (int c : order) s = s.poured(c);
                List<Integer> mark = new ArrayList<>(List.of(s.harm(), s.time));
                mark.addAll(order);
                if (best == null || less(mark, best)) best = mark;
            }
            return best;
        }

        static boolean less(List<Integer> a, List<Integer> b) {
            for (int i = 0; i < a.size(); i++) {
                if (!a.get(i).equals(b.get(i))) return a.get(i) < b.get(i);
            }
            return false;
        }
    }

    private static final class Model {
        State s = new State();
        long seed = 0;
        List<int[]> book = new ArrayList<>();
        Deque<State> past = new ArrayDeque<>();
        State[] images = new State[2];
        long[] seeds = new long[2];
        List<Integer> best;
        boolean known;

        List<Integer> best() {
            if (!known) best = s.best();
            known = true;
            return best;
        }

        void deed(State next) {
            past.push(s);
            if (past.size() > 20) past.removeLast();
            s = next;
            known = false;
        }

        int set(boolean can) {
            int set = 0;
            for (int c = 0; c < s.cells(); c++) {
                if (can ? s.begin(c) != NONE : s.pourOf(c) != null) set += 1 << c;
            }
            return set;
        }

        int mayWait() {
            if (best() == null) return NONE;
            int most = NONE;
            for (int n = 0; n <= 12; n++) {
                State t = s.copy();
                t.time += n;
                if (t.best().get(0).equals(best().get(0))) most = n;
            }
            return most;
        }

        int mayBeLate(int k) {
            if (best() == null) return NONE;
            int most = NONE;
            for (int n = 0; n <= 12; n++) {
                State t = s.copy();
                t.trucks.get(k)[0] += n;
                if (t.trucks.get(k)[0] > 99 || t.stockAt(t.time) < 0) continue;
                if (t.best().get(0).equals(best().get(0))) most = n;
            }
            return most;
        }

        int wrong() {
            for (int i = 0; i < book.size(); i++) {
                int e = book.get(i)[0];
                if (s.other(e) == NONE || s.joint(e) != (book.get(i)[1] == 1)) return i;
            }
            return NONE;
        }

        int told(int what) {
            int[] plain = {s.strips, s.layers, s.time, s.trucks.size(), s.stockAt(s.time), set(false), set(true),
                s.age, s.heavy, s.light, s.joints(), s.harm(), s.firstToSet()};
            if (what >= 0 && what < plain.length) return plain[what];
            if (what == 13) return best() == null ? NONE : best().get(0);
            if (what == 14) return best() == null ? NONE : best().get(1);
            if (what == 15) return mayWait();
            if (what == 16) return s.stopped();
            if (what == 17) return book.size();
            if (what == 18) return wrong();
            return what == 19 ? past.size() : OUTSIDE;
        }

        int cell(int c, int what) {
            if (c < 0 || c >= s.cells()) return UNKNOWN;
            if (what < 0 || what > 4) return OUTSIDE;
            if (what == 0) return s.needs.get(c);
            if (what < 3) return s.pourOf(c) == null ? NONE : s.pourOf(c)[what];
            if (s.begin(c) == NONE || what == 3) return s.begin(c);
            return s.poured(c).harm();
        }

        int edge(int e, int what) {
            if (s.other(e) == NONE) return UNKNOWN;
            if (what == 0) return s.open(e) ? 1 : 0;
            if (what == 1) return s.joint(e) ? 1 : 0;
            return what == 2 ? s.left(e) : OUTSIDE;
        }

        int truckAt(int k, int what) {
            if (k < 0 || k >= s.trucks.size()) return UNKNOWN;
            if (what == 0 || what == 1) return s.trucks.get(k)[what];
            return what == 2 ? mayBeLate(k) : OUTSIDE;
        }

        int build(int strips, int layers) {
            if (strips < 1 || strips > 3 || layers < 1 || layers > 3) return OUTSIDE;
            int had = s.pours.size();
            State n = new State();
            n.strips = strips; n.layers = layers; n.age = s.age; n.heavy = s.heavy; n.light = s.light;
            n.needs = new ArrayList<>();
            for (int c = 0; c < strips * layers; c++) n.needs.add(1);
            deed(n);
            return had;
        }

        int truck(int time, int loads) {
            if (time < 0 || time > 99 || loads < 1 || loads > 4) return OUTSIDE;
            if (s.trucks.size() == 9) return FULL;
            State n = s.copy();
            n.trucks.add(new int[] {time, loads});
            deed(n);
            return n.trucks.size() - 1;
        }

        int late(int k, int by) {
            if (k < 0 || k >= s.trucks.size()) return UNKNOWN;
            if (by < -99 || by > 99) return OUTSIDE;
            State n = s.copy();
            int time = n.trucks.get(k)[0] += by;
            if (time < 0 || time > 99) return OUTSIDE;
            if (n.stockAt(n.time) < 0) return NOT;
            deed(n);
            return time;
        }

        int away(int k) {
            if (k < 0 || k >= s.trucks.size()) return UNKNOWN;
            State n = s.copy();
            n.trucks.remove(k);
            if (n.stockAt(n.time) < 0) return NOT;
            deed(n);
            return n.trucks.size();
        }

        int need(int c, int loads) {
            if (c < 0 || c >= s.cells()) return UNKNOWN;
            if (loads < 1 || loads > 3) return OUTSIDE;
            if (s.pourOf(c) != null) return NOT;
            State n = s.copy();
            int had = n.needs.set(c, loads);
            deed(n);
            return had;
        }

        int bound(int what, int v) {
            if (what < 0 || what > 2) return OUTSIDE;
            if (what == 0 ? v < 1 || v > 40 : v < 0 || v > 9) return OUTSIDE;
            State n = s.copy();
            int had;
            if (what == 0) { had = n.age; n.age = v; }
            else if (what == 1) { had = n.heavy; n.heavy = v; }
            else { had = n.light; n.light = v; }
            deed(n);
            return had;
        }

        int pour(int c) {
            if (c < 0 || c >= s.cells()) return UNKNOWN;
            if (s.begin(c) == NONE) return NOT;
            deed(s.poured(c));
            return s.harm();
        }

        int rest(int by) {
            if (by < 1 || by > 40) return OUTSIDE;
            if (s.time + by > 9999) return NOT;
            State n = s.copy();
            n.time += by;
            deed(n);
            return n.time;
        }

        int follow() {
            if (best() == null || best().size() == 2) return NOT;
            int c = best().get(2);
            deed(s.poured(c));
            return c;
        }

        int draw(int n) {
            seed = (seed * 1103515245L + 12345L) % (1L << 31);
            return (int) (seed / 65536 % n);
        }

        int drift(int times) {
            if (times < 1 || times > 20) return OUTSIDE;
            for (int i = 0; i < times; i++) {
                int what = draw(4), c = draw(s.cells()), third = draw(30), fourth = draw(4);
                State n = s.copy();
                if (what <= 1 && n.trucks.size() < 9 && n.time + third <= 99) n.trucks.add(new int[] {n.time + third, fourth + 1});
                if (what == 2 && n.begin(c) != NONE) n = n.poured(c);
                if (what == 3 && n.pourOf(c) == null) n.needs.set(c, fourth == 0 ? 1 : fourth);
                deed(n);
            }
            return s.pours.size();
        }

        int undo(int n) {
            if (n < 1 || n > 20) return OUTSIDE;
            if (n > past.size()) return NOT;
            for (int i = 0; i < n; i++) s = past.pop();
            known = false;
            return s.time;
        }

        int best(int i) {
            return best() == null || i < 0 || i >= best().size() - 2 ? NONE : best().get(i + 2);
        }

        int stop(int what) {
            if (what < 0 || what > 1) return OUTSIDE;
            if (best() == null) return NONE;
            State t = s;
            int least = t.stopped(), fewest = 0;
            for (int i = 2; i < best().size(); i++) {
                t = t.poured(best().get(i));
                if (t.stopped() < least) { least = t.stopped(); fewest = i - 1; }
            }
            return what == 0 ? least : fewest;
        }

        int write(int e, boolean joint) {
            if (s.other(e) == NONE) return UNKNOWN;
            if (book.size() == 20) return FULL;
            book.add(new int[] {e, joint ? 1 : 0});
            return book.size();
        }

        int tear() {
            int had = book.size();
            book.clear();
            return had;
        }

        int seed(int v) {
            if (v < 0) return OUTSIDE;
            int had = (int) seed;
            seed = v;
            return had;
        }

        int keep(int i) {
            if (i < 0 || i > 1) return UNKNOWN;
            images[i] = s;
            seeds[i] = seed;
            past.clear();
            return 1;
        }

        int goBack(int i) {
            if (i < 0 || i > 1) return UNKNOWN;
            if (images[i] == null) return NOT;
            s = images[i];
            seed = seeds[i];
            past.clear();
            known = false;
            return 1;
        }
    }

    private static final int[] STRANGE = {Integer.MIN_VALUE, Integer.MAX_VALUE, -1, -2, 100, 1000000, -100, 10, 21, 41, 9, 27};
    private static int wrong = 0;

    private static boolean same(int run, int step, String call, int got, int want) {
        if (got == want) return true;
        if (++wrong <= 20) System.out.println("run " + run + ", step " + step + ": " + call + " answered " + got + ", due is " + want);
        return false;
    }

    private static int some(Random r, int least, int most) {
        return r.nextInt(40) == 0 ? STRANGE[r.nextInt(STRANGE.length)] : least + r.nextInt(most - least + 1);
    }

    private static boolean change(Random r, PourPlan x, Model m, int run, int step) {
        int a, b;
        switch (r.nextInt(24)) {
            case 0: if (r.nextInt(6) != 0) return true; a = some(r, 1, 3); b = some(r, 1, 3);
                return same(run, step, "build(" + a + ", " + b + ")", x.build(a, b), m.build(a, b));
            case 1: case 2: case 3: case 4: case 5: a = m.s.time > 70 ? some(r, 60, 99) : some(r, m.s.time, m.s.time + 20); b = some(r, 1, 4);
                return same(run, step, "truck(" + a + ", " + b + ")", x.truck(a, b), m.truck(a, b));
            case 6: a = some(r, 0, 8); b = some(r, -9, 12);
                return same(run, step, "late(" + a + ", " + b + ")", x.late(a, b), m.late(a, b));
            case 7: a = some(r, 0, 8);
                return r.nextInt(2) == 0 || same(run, step, "away(" + a + ")", x.away(a), m.away(a));
            case 8: case 9: a = some(r, 0, m.s.cells() - 1); b = some(r, 1, 3);
                return same(run, step, "need(" + a + ", " + b + ")", x.need(a, b), m.need(a, b));
            case 10: case 11: a = some(r, 0, 2); b = some(r, 0, 12);
                return same(run, step, "bound(" + a + ", " + b + ")", x.bound(a, b), m.bound(a, b));
            case 12: case 13: case 14: a = some(r, 0, m.s.cells() - 1);
                return same(run, step, "pour(" + a + ")", x.pour(a), m.pour(a));
            case 15: a = r.nextInt(4) == 0 ? some(r, 1, 40) : some(r, 1, 6);
                return same(run, step, "rest(" + a + ")", x.rest(a), m.rest(a));
            case 16: return same(run, step, "follow()", x.follow(), m.follow());
            case 17: a = some(r, 1, 5);
                return same(run, step, "drift(" + a + ")", x.drift(a), m.drift(a));
            case 18: a = some(r, 1, 6);
                return same(run, step, "undo(" + a + ")", x.undo(a), m.undo(a));
            case 19: a = some(r, 0, 26); boolean j = r.nextInt(3) == 0;
                return same(run, step, "write(" + a + ", " + j + ")", x.write(a, j), m.write(a, j));
            case 20: return r.nextInt(5) != 0 || same(run, step, "tear()", x.tear(), m.tear());
            case 21: a = some(r, 0, Integer.MAX_VALUE - 1);
                return same(run, step, "seed(" + a + ")", x.seed(a), m.seed(a));
            case 22: a = some(r, 0, 1);
                return r.nextInt(2) == 0 || same(run, step, "keep(" + a + ")", x.keep(a), m.keep(a));
            default: a = some(r, 0, 1);
                return r.nextInt(2) == 0 || same(run, step, "goBack(" + a + ")", x.goBack(a), m.goBack(a));
        }
    }

    private static boolean ask(Random r, PourPlan x, Model m, int run, int step) {
        int a, b;
        switch (r.nextInt(8)) {
            case 0: case 1: case 2: a = some(r, 0, 19);
                return same(run, step, "told(" + a + ")", x.told(a), m.told(a));
            case 3: a = some(r, 0, m.s.cells() - 1); b = some(r, 0, 4);
                return same(run, step, "cell(" + a + ", " + b + ")", x.cell(a, b), m.cell(a, b));
            case 4: a = some(r, 0, 3 * m.s.cells() - 1); b = some(r, 0, 2);
                return same(run, step, "edge(" + a + ", " + b + ")", x.edge(a, b), m.edge(a, b));
            case 5: a = some(r, 0, Math.max(0, m.s.trucks.size() - 1)); b = some(r, 0, 2);
                return same(run, step, "truckAt(" + a + ", " + b + ")", x.truckAt(a, b), m.truckAt(a, b));
            case 6: a = some(r, 0, m.s.cells());
                return same(run, step, "best(" + a + ")", x.best(a), m.best(a));
            default: a = some(r, 0, 1);
                return same(run, step, "stop(" + a + ")", x.stop(a), m.stop(a));
        }
    }

    private static void mixedRun(int run, int calls) {
        Random r = new Random(run);
        PourPlan x = new PourPlan();
        Model m = new Model();
        if (run % 4 != 0) {
            int strips = 1 + r.nextInt(3), layers = strips == 3 ? 1 + r.nextInt(2) : 1 + r.nextInt(3);
            if (!same(run, 0, "build", x.build(strips, layers), m.build(strips, layers))) return;
        }
        for (int step = 1; step <= calls; step++) {
            boolean large = m.s.cells() == 9 && m.s.pours.size() < 4;
            boolean right = r.nextInt(5) < 2 || large ? change(r, x, m, run, step) : ask(r, x, m, run, step);
            if (!right) return;
        }
    }

    /** Walls of nine CELLS, asked for all that hangs on BEST; few, for the model goes through every ORDER. */
    private static void largeRun(int run) {
        Random r = new Random(run);
        PourPlan x = new PourPlan();
        Model m = new Model();
        same(run, 0, "build(3, 3)", x.build(3, 3), m.build(3, 3));
        int gap = 1 + r.nextInt(6);
        for (int k = 0; k < 9; k++) {
            int time = Math.min(99, r.nextInt(gap * 4) + gap * k / 2), loads = 1 + r.nextInt(4);
            same(run, k, "truck", x.truck(time, loads), m.truck(time, loads));
        }
        for (int i = r.nextInt(6); i > 0; i--) {
            int c = r.nextInt(9), loads = 1 + r.nextInt(3);
            same(run, i, "need", x.need(c, loads), m.need(c, loads));
        }
        int age = 1 + r.nextInt(10), heavy = r.nextInt(10), light = r.nextInt(10);
        same(run, 0, "bound", x.bound(0, age), m.bound(0, age));
        same(run, 1, "bound", x.bound(1, heavy), m.bound(1, heavy));
        same(run, 2, "bound", x.bound(2, light), m.bound(2, light));
        for (int i = r.nextInt(4); i > 0; i--) {
            int c = r.nextInt(6);
            same(run, i, "pour", x.pour(c), m.pour(c));
        }
        for (int what = 10; what <= 16; what++) {
            if (what != 15 || run % 4 == 0) same(run, what, "told(" + what + ")", x.told(what), m.told(what));
        }
        for (int i = 0; i <= 9; i++) same(run, i, "best(" + i + ")", x.best(i), m.best(i));
        for (int what = 0; what < 2; what++) same(run, what, "stop(" + what + ")", x.stop(what), m.stop(what));
        int k = r.nextInt(9);
        if (run % 4 == 1) same(run, k, "truckAt(" + k + ", 2)", x.truckAt(k, 2), m.truckAt(k, 2));
    }

    public static void main(String[] args) {
        int runs = args.length > 0 ? Integer.parseInt(args[0]) : 400;
        int first = args.length > 1 ? Integer.parseInt(args[1]) : 0;
        for (int run = first; run < first + runs; run++) mixedRun(run, 200);
        for (int run = first; run < first + runs / 8; run++) largeRun(run);
        System.out.println(wrong == 0 ? "all answers are as due" : wrong + " runs are not as due");
        if (wrong != 0) System.exit(1);
    }
}
