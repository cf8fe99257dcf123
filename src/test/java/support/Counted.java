/** A PourPlan that counts its calls: behind the 512th nothing is promised, so no test may rest on it. */
final class Counted {
    static final int MOST_CALLS = 512;
    private final PourPlan x = new PourPlan();
    private int calls = 0;

    private PourPlan next() {
        if (++calls > MOST_CALLS) throw new IllegalStateException("a test makes more than 512 calls on one object");
        return x;
    }

    int calls() { return calls; }

    int told(int what) { return next().told(what); }
    int cell(int c, int what) { return next().cell(c, what); }
    int edge(int e, int what) { return next().edge(e, what); }
    int truckAt(int k, int what) { return next().truckAt(k, what); }
    int build(int strips, int layers) { return next().build(strips, layers); }
    int truck(int time, int loads) { return next().truck(time, loads); }
    int late(int k, int n) { return next().late(k, n); }
    int away(int k) { return next().away(k); }
    int need(int c, int loads) { return next().need(c, loads); }
    int bound(int what, int v) { return next().bound(what, v); }
    int pour(int c) { return next().pour(c); }
    int rest(int n) { return next().rest(n); }
    int follow() { return next().follow(); }
    int drift(int n) { return next().drift(n); }
    int undo(int n) { return next().undo(n); }
    int best(int i) { return next().best(i); }
    int stop(int what) { return next().stop(what); }
    int write(int e, boolean joint) { return next().write(e, joint); }
    int tear() { return next().tear(); }
    int seed(int v) { return next().seed(v); }
    int keep(int i) { return next().keep(i); }
    int goBack(int i) { return next().goBack(i); }

    /** All that can be asked, in one line; some 190 calls for a wall of nine CELLS with nine TRUCKS. */
    String view() {
        StringBuilder s = new StringBuilder("told");
        for (int what = 0; what < 20; what++) s.append(' ').append(told(what));
        int cells = told(0) * told(1);
        int trucks = told(3);
        for (int c = 0; c < cells; c++) {
            s.append("; cell ").append(c).append(':');
            for (int what = 0; what < 5; what++) s.append(' ').append(cell(c, what));
        }
        for (int e = 0; e < 3 * cells; e++) {
            s.append("; edge ").append(e).append(':');
            for (int what = 0; what < 3; what++) s.append(' ').append(edge(e, what));
        }
        for (int k = 0; k < trucks; k++) {
            s.append("; truck ").append(k).append(':');
            for (int what = 0; what < 3; what++) s.append(' ').append(truckAt(k, what));
        }
        s.append("; best");
        for (int i = 0; i <= cells; i++) s.append(' ').append(best(i));
        s.append("; stop ").append(stop(0)).append(' ').append(stop(1));
        int seed = seed(0);
        seed(seed);
        return s.append("; seed ").append(seed).toString();
    }

    /** Section 1 and BEST, without THE BOOK, THE SEED and what can be undone; some 70 calls at most. */
    String section1() {
        StringBuilder s = new StringBuilder("told");
        for (int what = 0; what < 15; what++) s.append(' ').append(told(what));
        s.append(' ').append(best(0));
        int cells = told(0) * told(1);
        int trucks = told(3);
        for (int c = 0; c < cells; c++) {
            s.append("; cell ").append(c).append(':');
            for (int what = 0; what < 3; what++) s.append(' ').append(cell(c, what));
        }
        for (int k = 0; k < trucks; k++) s.append("; truck ").append(k).append(": ").append(truckAt(k, 0)).append(' ').append(truckAt(k, 1));
        return s.toString();
    }
}
