/** A wall poured in strips and layers, so that no edge sets before it is covered. */
public final class PourPlan {
    public static final int NONE = -1, UNKNOWN = -1000000001, OUTSIDE = -1000000002, NOT = -1000000003, FULL = -1000000004;

    private static final int MOST_CELLS = 9;
    private static final int MOST_TRUCKS = 9;
    private static final int MOST_NEED = 3;
    private static final int MOST_LOADS = 4;
    private static final int LAST_TRUCK_TIME = 99;
    private static final int LAST_TIME = 9999;
    private static final int MOST_REST = 40;
    private static final int MOST_AGE = 40;
    private static final int MOST_HARM = 9;
    private static final int MOST_UNDONE = 20;
    private static final int MOST_DRIFT = 20;
    private static final int MOST_ENTRIES = 20;
    private static final int MOST_WAIT = 12;
    private static final int IMAGES = 2;
    private static final int NOTHING_LEFT = -1000;
    private static final int TOP = 0;
    private static final int RIGHT = 1;
    /** Above every TIME and every HARM that there can be, and far from overflow when a little is added. */
    private static final int NEVER = 1000000000;

    private final Wall wall = new Wall();
    private final Wall trial = new Wall();
    private final Planner planner = new Planner();
    private final Planner tryout = new Planner();
    private final History history = new History();
    private final Book book = new Book();
    private final Image[] images = new Image[IMAGES];
    private int seedNow;
    private boolean planned;

    public PourPlan() {
        for (int i = 0; i < images.length; i++) {
            images[i] = new Image();
        }
    }

    // ---- the wall

    public int told(int what) {
        switch (what) {
            case 0: return wall.strips;
            case 1: return wall.layers;
            case 2: return wall.time;
            case 3: return wall.trucks;
            case 4: return wall.stock();
            case 5: return wall.pouredSet();
            case 6: return wall.canSet();
            case 7: return wall.age;
            case 8: return wall.heavy;
            case 9: return wall.light;
            case 10: return wall.joints();
            case 11: return wall.harm();
            case 12: return wall.firstToSet();
            case 13: return plan().leastHarm();
            case 14: return plan().earliestEnd();
            case 15: return mayWait();
            case 16: return wall.stoppedHarm();
            case 17: return book.size;
            case 18: return book.firstWrong(wall);
            case 19: return history.count;
            default: return OUTSIDE;
        }
    }

    public int cell(int c, int what) {
        if (!wall.isCell(c)) {
            return UNKNOWN;
        }
        switch (what) {
            case 0: return wall.needs[c];
            case 1: return wall.begun[c];
            case 2: return wall.done[c];
            case 3: return wall.startOf(c);
            case 4: return harmBehind(c);
            default: return OUTSIDE;
        }
    }

    public int edge(int e, int what) {
        if (!wall.isEdge(e)) {
            return UNKNOWN;
        }
        switch (what) {
            case 0: return wall.isOpen(e) ? 1 : 0;
            case 1: return wall.isJoint(e) ? 1 : 0;
            case 2: return wall.timeLeft(e);
            default: return OUTSIDE;
        }
    }

    public int truckAt(int k, int what) {
        if (!wall.isTruck(k)) {
            return UNKNOWN;
        }
        switch (what) {
            case 0: return wall.truckTimes[k];
            case 1: return wall.truckLoads[k];
            case 2: return mayBeLate(k);
            default: return OUTSIDE;
        }
    }

    // ---- deeds

    public int build(int strips, int layers) {
        if (!within(strips, 1, 3) || !within(layers, 1, 3)) {
            return OUTSIDE;
        }
        int poured = wall.pouredCount();
        beforeDeed();
        wall.raise(strips, layers);
        return poured;
    }

    public int truck(int time, int loads) {
        if (!within(time, 0, LAST_TRUCK_TIME) || !within(loads, 1, MOST_LOADS)) {
            return OUTSIDE;
        }
        if (!wall.hasTruckRoom()) {
            return FULL;
        }
        beforeDeed();
        wall.addTruck(time, loads);
        return wall.trucks - 1;
    }

    public int late(int k, int n) {
        if (!wall.isTruck(k)) {
            return UNKNOWN;
        }
        if (!within(n, -LAST_TRUCK_TIME, LAST_TRUCK_TIME)) {
            return OUTSIDE;
        }
        int time = wall.truckTimes[k] + n;
        if (!within(time, 0, LAST_TRUCK_TIME)) {
            return OUTSIDE;
        }
        if (stockIfLate(k, n) < 0) {
            return NOT;
        }
        beforeDeed();
        wall.truckTimes[k] = time;
        return time;
    }

    public int away(int k) {
        if (!wall.isTruck(k)) {
            return UNKNOWN;
        }
        if (stockWithout(k) < 0) {
            return NOT;
        }
        beforeDeed();
        wall.dropTruck(k);
        return wall.trucks;
    }

    public int need(int c, int loads) {
        if (!wall.isCell(c)) {
            return UNKNOWN;
        }
        if (!within(loads, 1, MOST_NEED)) {
            return OUTSIDE;
        }
        if (wall.isPoured(c)) {
            return NOT;
        }
        int before = wall.needs[c];
        beforeDeed();
        wall.needs[c] = loads;
        return before;
    }

    public int bound(int what, int v) {
        boolean isAge = what == 0;
        if (!within(what, 0, 2) || !within(v, isAge ? 1 : 0, isAge ? MOST_AGE : MOST_HARM)) {
            return OUTSIDE;
        }
        beforeDeed();
        return wall.swapBound(what, v);
    }

    public int pour(int c) {
        if (!wall.isCell(c)) {
            return UNKNOWN;
        }
        if (wall.startOf(c) == NONE) {
            return NOT;
        }
        beforeDeed();
        wall.fill(c);
        return wall.harm();
    }

    public int rest(int n) {
        if (!within(n, 1, MOST_REST)) {
            return OUTSIDE;
        }
        if (wall.time + n > LAST_TIME) {
            return NOT;
        }
        beforeDeed();
        wall.time += n;
        return wall.time;
    }

    public int follow() {
        int c = plan().cellAt(0);
        if (c == NONE) {
            return NOT;
        }
        beforeDeed();
        wall.fill(c);
        return c;
    }

    public int drift(int n) {
        if (!within(n, 1, MOST_DRIFT)) {
            return OUTSIDE;
        }
        for (int i = 0; i < n; i++) {
            driftOnce();
        }
        return wall.pouredCount();
    }

    public int undo(int n) {
        if (!within(n, 1, MOST_UNDONE)) {
            return OUTSIDE;
        }
        if (n > history.count) {
            return NOT;
        }
        history.takeBack(n, wall);
        planned = false;
        return wall.time;
    }

    // ---- asked

    public int best(int i) {
        return plan().cellAt(i);
    }

    public int stop(int what) {
        if (!within(what, 0, 1)) {
            return OUTSIDE;
        }
        Planner plan = plan();
        if (!plan.found) {
            return NONE;
        }
        trial.copyFrom(wall);
        int least = trial.stoppedHarm();
        int fewest = 0;
        for (int i = 0; i < plan.count; i++) {
            trial.fill(plan.cellAt(i));
            int harm = trial.stoppedHarm();
            if (harm < least) {
                least = harm;
                fewest = i + 1;
            }
        }
        return what == 0 ? least : fewest;
    }

    // ---- the book

    public int write(int e, boolean joint) {
        if (!wall.isEdge(e)) {
            return UNKNOWN;
        }
        if (!book.hasRoom()) {
            return FULL;
        }
        book.enter(e, joint);
        return book.size;
    }

    public int tear() {
        int had = book.size;
        book.size = 0;
        return had;
    }

    // ---- images

    public int seed(int v) {
        if (v < 0) {
            return OUTSIDE;
        }
        int before = seedNow;
        seedNow = v;
        return before;
    }

    public int keep(int i) {
        Image image = imageAt(i);
        if (image == null) {
            return UNKNOWN;
        }
        image.kept = true;
        image.seedThen = seedNow;
        image.wallThen.copyFrom(wall);
        history.forget();
        return 1;
    }

    public int goBack(int i) {
        Image image = imageAt(i);
        if (image == null) {
            return UNKNOWN;
        }
        if (!image.kept) {
            return NOT;
        }
        seedNow = image.seedThen;
        wall.copyFrom(image.wallThen);
        history.forget();
        planned = false;
        return 1;
    }

    // ---- behind the face

    private static boolean within(int v, int least, int most) {
        return v >= least && v <= most;
    }

    /** Every change of the wall comes through here first: what was so can be undone, and BEST is to be found anew. */
    private void beforeDeed() {
        history.remember(wall);
        planned = false;
    }

    private Planner plan() {
        if (!planned) {
            planner.search(wall, NEVER, false);
            planned = true;
        }
        return planner;
    }

    private int harmBehind(int c) {
        if (wall.startOf(c) == NONE) {
            return NONE;
        }
        trial.copyFrom(wall);
        trial.fill(c);
        return trial.harm();
    }

    private int stockIfLate(int k, int n) {
        trial.copyFrom(wall);
        trial.delay(k, n);
        return trial.stock();
    }

    private int stockWithout(int k) {
        trial.copyFrom(wall);
        trial.dropTruck(k);
        return trial.stock();
    }

    /** Waiting can lessen HARM as well as add to it, so the greatest is looked for from above. */
    private int mayWait() {
        Planner plan = plan();
        if (!plan.found) {
            return NONE;
        }
        for (int n = MOST_WAIT; n > 0; n--) {
            trial.copyFrom(wall);
            trial.time += n;
            if (tryout.leastHarmIs(trial, plan.bestHarm)) {
                return n;
            }
        }
        return 0;
    }

    private int mayBeLate(int k) {
        Planner plan = plan();
        if (!plan.found) {
            return NONE;
        }
        int most = Math.min(MOST_WAIT, LAST_TRUCK_TIME - wall.truckTimes[k]);
        for (int n = most; n > 0; n--) {
            trial.copyFrom(wall);
            trial.delay(k, n);
            if (trial.stock() >= 0 && tryout.leastHarmIs(trial, plan.bestHarm)) {
                return n;
            }
        }
        return 0;
    }

    /** Null: there is no IMAGE of that number, kept or not. */
    private Image imageAt(int i) {
        return i >= 0 && i < images.length ? images[i] : null;
    }

    private int draw(int n) {
        seedNow = (int) ((seedNow * 1103515245L + 12345L) & 0x7FFFFFFFL);
        return n < 1 ? 0 : seedNow / 65536 % n;
    }

    /** All four are drawn each time, and each time is a deed, even if nothing comes of it. */
    private void driftOnce() {
        beforeDeed();
        int deed = draw(4);
        int c = draw(wall.cells);
        int later = draw(30);
        int amount = draw(4);
        if (deed < 2) {
            if (wall.hasTruckRoom() && wall.time + later <= LAST_TRUCK_TIME) {
                wall.addTruck(wall.time + later, amount + 1);
            }
        } else if (deed == 2) {
            wall.fill(c);
        } else if (wall.isCell(c) && !wall.isPoured(c)) {
            wall.needs[c] = Math.max(1, amount);
        }
    }

    private static void copyRow(int[] from, int[] to) {
        for (int i = 0; i < from.length && i < to.length; i++) {
            to[i] = from[i];
        }
    }

    private static void fillRow(int[] row, int v) {
        for (int i = 0; i < row.length; i++) {
            row[i] = v;
        }
    }

    /** All of section 1 of the document, and what can be told from it alone. */
    private static final class Wall {
        int strips;
        int layers;
        int cells;
        int time;
        int age = 6;
        int heavy = 3;
        int light = 1;
        int trucks;
        final int[] needs = new int[MOST_CELLS];
        final int[] begun = new int[MOST_CELLS];
        final int[] done = new int[MOST_CELLS];
        final int[] truckTimes = new int[MOST_TRUCKS];
        final int[] truckLoads = new int[MOST_TRUCKS];

        Wall() {
            raise(3, 2);
        }

        /** AGE, HEAVY and LIGHT stay as they are. */
        void raise(int newStrips, int newLayers) {
            strips = newStrips;
            layers = newLayers;
            cells = Math.min(newStrips * newLayers, MOST_CELLS);
            time = 0;
            trucks = 0;
            fillRow(needs, 1);
            fillRow(begun, NONE);
            fillRow(done, NONE);
        }

        void copyFrom(Wall other) {
            strips = other.strips;
            layers = other.layers;
            cells = other.cells;
            time = other.time;
            age = other.age;
            heavy = other.heavy;
            light = other.light;
            trucks = other.trucks;
            copyRow(other.needs, needs);
            copyRow(other.begun, begun);
            copyRow(other.done, done);
            copyRow(other.truckTimes, truckTimes);
            copyRow(other.truckLoads, truckLoads);
        }

        int swapBound(int what, int v) {
            int before;
            if (what == 0) {
                before = age;
                age = v;
            } else if (what == 1) {
                before = heavy;
                heavy = v;
            } else {
                before = light;
                light = v;
            }
            return before;
        }

        // -- cells

        boolean isCell(int c) {
            return c >= 0 && c < cells;
        }

        boolean isPoured(int c) {
            return c >= 0 && c < cells && begun[c] != NONE;
        }

        int pouredSet() {
            int set = 0;
            for (int c = 0; c < cells; c++) {
                if (isPoured(c)) {
                    set |= 1 << c;
                }
            }
            return set;
        }

        int pouredCount() {
            return Integer.bitCount(pouredSet());
        }

        int canSet() {
            int set = 0;
            for (int c = 0; c < cells; c++) {
                if (startOf(c) != NONE) {
                    set |= 1 << c;
                }
            }
            return set;
        }

        /** When CELL c would BEGIN now; NONE: it cannot be POURED. */
        int startOf(int c) {
            if (!isCell(c) || isPoured(c)) {
                return NONE;
            }
            if (c >= strips && !isPoured(c - strips)) {
                return NONE;
            }
            int brought = broughtAt(usedLoads() + needs[c]);
            return brought == NONE ? NONE : Math.max(time, brought);
        }

        void fill(int c) {
            int start = startOf(c);
            if (start == NONE) {
                return;
            }
            begun[c] = start;
            done[c] = start + needs[c];
            time = done[c];
        }

        // -- trucks

        boolean isTruck(int k) {
            return k >= 0 && k < trucks;
        }

        boolean hasTruckRoom() {
            return trucks < MOST_TRUCKS;
        }

        void addTruck(int when, int loads) {
            if (!hasTruckRoom()) {
                return;
            }
            truckTimes[trucks] = when;
            truckLoads[trucks] = loads;
            trucks++;
        }

        void delay(int k, int n) {
            if (isTruck(k)) {
                truckTimes[k] += n;
            }
        }

        void dropTruck(int k) {
            if (!isTruck(k)) {
                return;
            }
            for (int i = k; i + 1 < trucks; i++) {
                truckTimes[i] = truckTimes[i + 1];
                truckLoads[i] = truckLoads[i + 1];
            }
            trucks--;
        }

        int broughtBy(int when) {
            int loads = 0;
            for (int k = 0; k < trucks; k++) {
                if (truckTimes[k] <= when) {
                    loads += truckLoads[k];
                }
            }
            return loads;
        }

        /** The least TIME by which so many LOADS have come in all; NONE: so many never come. */
        int broughtAt(int loads) {
            int least = NONE;
            for (int k = 0; k < trucks; k++) {
                int when = truckTimes[k];
                if ((least == NONE || when < least) && broughtBy(when) >= loads) {
                    least = when;
                }
            }
            return least;
        }

        int usedLoads() {
            int loads = 0;
            for (int c = 0; c < cells; c++) {
                if (isPoured(c)) {
                    loads += needs[c];
                }
            }
            return loads;
        }

        int stock() {
            return broughtBy(time) - usedLoads();
        }

        // -- edges

        int edges() {
            return 3 * cells;
        }

        /** The CELL on the other side of number e; NONE: there is no such EDGE. */
        int across(int e) {
            int c = e / 3;
            if (e < 0 || c >= cells || strips < 1) {
                return NONE;
            }
            int strip = c % strips;
            switch (e % 3) {
                case TOP: return c + strips < cells ? c + strips : NONE;
                case RIGHT: return strip + 1 < strips ? c + 1 : NONE;
                default: return strip > 0 ? c - 1 : NONE;
            }
        }

        boolean isEdge(int e) {
            return across(e) != NONE;
        }

        boolean isOpen(int e) {
            int other = across(e);
            return other != NONE && isPoured(e / 3) && !isPoured(other);
        }

        /** How old the EDGE got until it was covered, or is now; below 0: it was never OPEN. */
        int ageOf(int e) {
            int c = e / 3;
            int other = across(e);
            if (!isCell(other) || !isPoured(c)) {
                return -1;
            }
            int until = isPoured(other) ? begun[other] : time;
            return until - done[c];
        }

        boolean isJoint(int e) {
            return ageOf(e) > age;
        }

        int timeLeft(int e) {
            return isOpen(e) && !isJoint(e) ? age - ageOf(e) : NOTHING_LEFT;
        }

        int harmOf(int e) {
            return e % 3 == TOP ? heavy : light;
        }

        int joints() {
            int n = 0;
            for (int e = 0; e < edges(); e++) {
                if (isJoint(e)) {
                    n++;
                }
            }
            return n;
        }

        int harm() {
            int sum = 0;
            for (int e = 0; e < edges(); e++) {
                if (isJoint(e)) {
                    sum += harmOf(e);
                }
            }
            return sum;
        }

        int stoppedHarm() {
            int sum = 0;
            for (int e = 0; e < edges(); e++) {
                if (isOpen(e) || isJoint(e)) {
                    sum += harmOf(e);
                }
            }
            return sum;
        }

        int firstToSet() {
            int first = NONE;
            int least = NEVER;
            for (int e = 0; e < edges(); e++) {
                int left = timeLeft(e);
                if (left != NOTHING_LEFT && left < least) {
                    least = left;
                    first = e;
                }
            }
            return first;
        }
    }

    /** Looks for BEST among all ORDERS, passing over what can no longer be better than what was found. */
    private static final class Planner {
        boolean found;
        int count;
        int bestHarm;
        private int bestEnd;
        private int strips;
        private int layers;
        private int cells;
        private int age;
        private int heavy;
        private int light;
        private int allNeeds;
        private int lastNeed;
        private boolean harmAlone;
        private final int[] needs = new int[MOST_CELLS];
        /** NEVER: not POURED, so that no age is counted from it. */
        private final int[] done = new int[MOST_CELLS];
        private final int[] order = new int[MOST_CELLS];
        private final int[] bestOrder = new int[MOST_CELLS];
        /** At i: the least TIME by which i LOADS have come in all. */
        private final int[] arrivals = new int[MOST_CELLS * MOST_NEED + 1];

        boolean leastHarmIs(Wall wall, int harm) {
            search(wall, harm, true);
            return found && bestHarm == harm;
        }

        int leastHarm() {
            return found ? bestHarm : NONE;
        }

        int earliestEnd() {
            return found ? bestEnd : NONE;
        }

        int cellAt(int i) {
            return found && i >= 0 && i < count && i < bestOrder.length ? bestOrder[i] : NONE;
        }

        /** ORDERS of more HARM than the ceiling are not looked at; alone: only whether the ceiling is the least HARM. */
        void search(Wall wall, int ceiling, boolean alone) {
            readWall(wall);
            readCells(wall);
            readArrivals(wall);
            found = false;
            bestHarm = ceiling;
            bestEnd = NEVER;
            harmAlone = alone;
            if (count == 0 || arrivalOf(allNeeds) != NEVER) {
                extend(0, wall.time, harmCovered(), wall.usedLoads());
            }
        }

        private void readWall(Wall wall) {
            strips = wall.strips;
            layers = wall.layers;
            cells = wall.cells;
            age = wall.age;
            heavy = wall.heavy;
            light = wall.light;
        }

        private void readCells(Wall wall) {
            count = 0;
            allNeeds = 0;
            lastNeed = MOST_NEED;
            for (int c = 0; c < cells; c++) {
                needs[c] = wall.needs[c];
                allNeeds += needs[c];
                if (wall.isPoured(c)) {
                    done[c] = wall.done[c];
                } else {
                    done[c] = NEVER;
                    count++;
                }
                if (c + strips >= cells) {
                    lastNeed = Math.min(lastNeed, needs[c]);
                }
            }
        }

        private void readArrivals(Wall wall) {
            fillRow(arrivals, NEVER);
            for (int k = 0; k < wall.trucks; k++) {
                int when = wall.truckTimes[k];
                int loads = wall.broughtBy(when);
                for (int i = 0; i <= loads && i < arrivals.length; i++) {
                    arrivals[i] = Math.min(arrivals[i], when);
                }
            }
        }

        private int arrivalOf(int loads) {
            return loads < 0 || loads >= arrivals.length ? NEVER : arrivals[loads];
        }

        /** OPEN EDGES are left out: they come in when they are covered, and at the end all are. */
        private int harmCovered() {
            int sum = 0;
            for (int c = 0; c < cells; c++) {
                if (done[c] != NEVER) {
                    sum += harmCovering(c, done[c] - needs[c]);
                }
            }
            return sum;
        }

        /** Lesser numbers are tried first, so of like ORDERS the first is found first and stays. */
        private void extend(int depth, int time, int harm, int used) {
            if (depth >= count || depth >= order.length) {
                take(time, harm);
                return;
            }
            for (int c = 0; c < cells; c++) {
                if (!isNext(c)) {
                    continue;
                }
                int usedThen = used + needs[c];
                int start = Math.max(time, arrivalOf(usedThen));
                int harmThen = harm + harmCovering(c, start);
                int end = start + needs[c];
                order[depth] = c;
                done[c] = end;
                if (mayBeBetter(harmThen + harmToCome(end, usedThen), leastEnd(end, usedThen))) {
                    extend(depth + 1, end, harmThen, usedThen);
                }
                done[c] = NEVER;
            }
        }

        private boolean isNext(int c) {
            return done[c] == NEVER && (c < strips || done[c - strips] != NEVER);
        }

        /** Alone, less HARM than the ceiling settles it: bestHarm is then below all HARM, and the search runs out. */
        private void take(int time, int harm) {
            if (!mayBeBetter(harm, time)) {
                return;
            }
            found = true;
            bestHarm = harmAlone && harm < bestHarm ? NONE : harm;
            bestEnd = time;
            copyRow(order, bestOrder);
        }

        private boolean mayBeBetter(int harm, int end) {
            if (harm != bestHarm) {
                return harm < bestHarm;
            }
            return end < bestEnd && !(found && harmAlone);
        }

        private int leastEnd(int time, int used) {
            int left = allNeeds - used;
            return left == 0 ? time : Math.max(time + left, arrivalOf(allNeeds) + lastNeed);
        }

        /** HARM that no ORDER of the rest avoids: each STRIP is taken as if it alone went on at once. */
        private int harmToCome(int time, int used) {
            int sum = 0;
            for (int strip = 0; strip < strips; strip++) {
                int start = time;
                int usedThen = used;
                for (int layer = 0; layer < layers; layer++) {
                    int c = layer * strips + strip;
                    if (c >= cells || done[c] != NEVER) {
                        continue;
                    }
                    usedThen += needs[c];
                    start = Math.max(start, arrivalOf(usedThen));
                    sum += harmCovering(c, start);
                    start += needs[c];
                }
            }
            return sum;
        }

        /** HARM of the EDGES that SET, if CELL c covers them then. */
        private int harmCovering(int c, int start) {
            if (strips < 1) {
                return 0;
            }
            int strip = c % strips;
            int tooOld = start - age;
            int sum = 0;
            if (c >= strips && done[c - strips] < tooOld) {
                sum += heavy;
            }
            if (strip > 0 && done[c - 1] < tooOld) {
                sum += light;
            }
            if (strip + 1 < strips && done[c + 1] < tooOld) {
                sum += light;
            }
            return sum;
        }
    }

    /** What was so ahead of the latest deeds, in a ring of walls that are used again. */
    private static final class History {
        int count;
        private int next;
        private final Wall[] walls = new Wall[MOST_UNDONE];

        History() {
            for (int i = 0; i < walls.length; i++) {
                walls[i] = new Wall();
            }
        }

        void remember(Wall wall) {
            walls[next].copyFrom(wall);
            next = next + 1 < walls.length ? next + 1 : 0;
            count = Math.min(count + 1, walls.length);
        }

        void takeBack(int n, Wall into) {
            if (n < 1 || n > count) {
                return;
            }
            next = next >= n ? next - n : next - n + walls.length;
            count -= n;
            into.copyFrom(walls[next]);
        }

        void forget() {
            count = 0;
        }
    }

    private static final class Book {
        int size;
        private final int[] edges = new int[MOST_ENTRIES];
        private final boolean[] joints = new boolean[MOST_ENTRIES];

        boolean hasRoom() {
            return size < MOST_ENTRIES;
        }

        void enter(int e, boolean joint) {
            if (!hasRoom()) {
                return;
            }
            edges[size] = e;
            joints[size] = joint;
            size++;
        }

        int firstWrong(Wall wall) {
            for (int i = 0; i < size && i < MOST_ENTRIES; i++) {
                if (!wall.isEdge(edges[i]) || wall.isJoint(edges[i]) != joints[i]) {
                    return i;
                }
            }
            return NONE;
        }
    }

    private static final class Image {
        boolean kept;
        int seedThen;
        final Wall wallThen = new Wall();
    }
}
