/** Ground that near moons lift and lower; the project's document says what each call answers. */
public final class TidedGround {
    public static final int NONE = -1, UNKNOWN = -1000000001, OUTSIDE = -1000000002, NOT = -1000000003, FULL = -1000000004;

    private static final int MOST_LETTERS = 250;
    private static final int MOST_CELLS = 24;
    private static final int MOST_MOONS = 3;
    private static final int LONGEST_ROW = 9;
    private static final int MOST_SITES = 6;
    private static final int MOST_CHANGED = 12;
    private static final int MOST_HOUSES = 6;
    private static final int MOST_CRACKS = 6;
    private static final int MOST_WELLS = 5;
    private static final int MOST_DEEDS = 4;
    private static final int MOST_SEEN = 12;
    private static final int MOST_WRITTEN = 30;
    private static final int IMAGES = 2;
    private static final int WAYS = 5;
    private static final int EAST = 2;
    private static final int SOUTH = 3;
    private static final int FIRST_STEEP = 20;
    private static final int HEAVIEST = 90;
    private static final int LAST_STEP = 900000;
    private static final int LAST_STEP_TOLD = 999999;
    private static final int LAST_STEP_TO_DRIFT = 899000;
    private static final int MOST_PUSHED = 999999999;
    private static final int BILLION = 1000000000;
    private static final int MOST_SOONEST = 60;
    private static final int MOST_LEAST = 40;

    /** How X and Y change by each way: staying, north, east, south, west. */
    private static final int[] WAY_X = {0, 0, 1, 0, -1};
    private static final int[] WAY_Y = {0, -1, 0, 1, 0};

    private final int[] letters;
    private int letterCount;
    private int faultAt;
    private final Reader reader;
    /** The plan that the next text is read into, so that a text with a fault changes nothing. */
    private Plan spare;
    private final World world;
    private final State now;
    private final State[] images;
    private final Routes routes;
    private final Wells wells;
    private final Sightings sightings;
    private final int[] book;
    private int bookCount;

    public TidedGround() {
        letters = new int[MOST_LETTERS];
        faultAt = NONE;
        reader = new Reader();
        spare = new Plan();
        now = new State();
        world = new World(new Plan(), now);
        images = new State[IMAGES];
        for (int i = 0; i < IMAGES; i++) {
            images[i] = new State();
        }
        routes = new Routes(world);
        wells = new Wells(world);
        sightings = new Sightings(world);
        book = new int[MOST_WRITTEN];
    }

    // ---- the ground

    public int feed(int letter) {
        if (isOff(letter, 0, 255)) {
            return OUTSIDE;
        }
        if (letterCount >= MOST_LETTERS) {
            return FULL;
        }
        letters[letterCount] = letter;
        letterCount++;
        return letterCount;
    }

    public int ground() {
        int number = reader.readText(letters, letterCount, spare);
        letterCount = 0;
        if (number != 0) {
            faultAt = reader.faultAt;
            return -10 - number;
        }
        faultAt = NONE;
        Plan old = world.plan;
        world.plan = spare;
        spare = old;
        startAnew();
        return world.plan.cells;
    }

    private void startAnew() {
        now.restart();
        sightings.count = 0;
        bookCount = 0;
        for (int i = 0; i < IMAGES; i++) {
            images[i].kept = false;
        }
    }

    public int fault() {
        return faultAt;
    }

    public int told(int what) {
        Plan plan = world.plan;
        switch (what) {
            case 0: return plan.width;
            case 1: return plan.depth;
            case 2: return plan.moonCount;
            case 3: return plan.houses.count;
            case 4: return plan.cracks.count;
            case 5: return plan.wells.count;
            case 6: return plan.deeds.count;
            case 7: return letterCount;
            case 8: return now.step;
            case 9: return plan.period();
            case 10: return plan.pairOf(now.cart);
            case 11: return now.pushed;
            case 12: return now.steep;
            case 13: return sightings.count;
            case 14: return bookCount;
            default: return OUTSIDE;
        }
    }

    public int cell(int x, int y, int what) {
        int c = world.plan.cellAt(x, y);
        if (c == NONE) {
            return UNKNOWN;
        }
        switch (what) {
            case 0: return world.plan.base[c];
            case 1: return world.plan.softness[c];
            case 2: return now.loads[c];
            case 3: return world.stiffOf(c);
            case 4: return world.pullAt(c, now.step, NONE);
            case 5: return world.heightAt(c, now.step, NONE);
            case 6: return world.leanAt(c, now.step, NONE);
            default: return OUTSIDE;
        }
    }

    public int height(int x, int y, int step) {
        int c = world.plan.cellAt(x, y);
        if (c == NONE) {
            return UNKNOWN;
        }
        if (isOff(step, 0, LAST_STEP_TOLD)) {
            return OUTSIDE;
        }
        return world.heightAt(c, step, NONE);
    }

    public int moon(int i, int what) {
        if (isNoMoon(i)) {
            return UNKNOWN;
        }
        Moon m = world.plan.moons[i];
        switch (what) {
            case 0: return m.size;
            case 1: return m.perX;
            case 2: return m.perY;
            case 3: return now.shifts[i];
            case 4: return m.partAt(0, now.step, now.shifts[i]);
            default: return OUTSIDE;
        }
    }

    public int house(int h, int what) {
        Sites houses = world.plan.houses;
        if (!houses.has(h)) {
            return UNKNOWN;
        }
        switch (what) {
            case 0: return world.plan.pairOf(houses.cell[h]);
            case 1: return houses.first[h];
            case 2: return now.props[h];
            case 3: return world.isBroken(h, now.step) ? 1 : 0;
            case 4: return world.needOf(h);
            default: return OUTSIDE;
        }
    }

    public int crack(int k, int step) {
        if (!world.plan.cracks.has(k)) {
            return UNKNOWN;
        }
        if (isOff(step, 0, LAST_STEP_TOLD)) {
            return OUTSIDE;
        }
        return world.isOpen(k, step) ? 1 : 0;
    }

    // ---- what is done

    public int pass(int n) {
        if (isOff(n, 1, 9999)) {
            return OUTSIDE;
        }
        if (now.step + n > LAST_STEP) {
            return FULL;
        }
        now.step += n;
        return now.step;
    }

    public int roll(int way) {
        if (isNoWay(way)) {
            return OUTSIDE;
        }
        if (world.plan.cells == 0) {
            return NOT;
        }
        int there = world.plan.beside(now.cart, way);
        int push = world.pushTo(now.cart, there, now.step + 1);
        if (push == NONE) {
            return NOT;
        }
        if (now.step >= LAST_STEP) {
            return FULL;
        }
        world.takeStep(there, push);
        return push;
    }

    public int steep(int v) {
        if (isOff(v, 0, 99)) {
            return OUTSIDE;
        }
        int was = now.steep;
        now.steep = v;
        return was;
    }

    public int load(int x, int y, int v) {
        int c = world.plan.cellAt(x, y);
        if (c == NONE) {
            return UNKNOWN;
        }
        if (isOff(v, 0, HEAVIEST)) {
            return OUTSIDE;
        }
        int was = now.loads[c];
        now.loads[c] = v;
        return was;
    }

    public int prop(int h, int v) {
        if (!world.plan.houses.has(h)) {
            return UNKNOWN;
        }
        if (isOff(v, 0, 999)) {
            return OUTSIDE;
        }
        int was = now.props[h];
        now.props[h] = v;
        return was;
    }

    public int shift(int i, int v) {
        if (isNoMoon(i)) {
            return UNKNOWN;
        }
        if (isOff(v, 0, 999)) {
            return OUTSIDE;
        }
        int was = now.shifts[i];
        now.shifts[i] = leftOver(v, world.plan.moons[i].size);
        return was;
    }

    public int drift(int n) {
        if (isOff(n, 1, 99)) {
            return OUTSIDE;
        }
        if (world.plan.cells == 0) {
            return NOT;
        }
        if (now.step > LAST_STEP_TO_DRIFT) {
            return FULL;
        }
        for (int i = 0; i < n; i++) {
            world.stepByDraws();
        }
        return world.plan.pairOf(now.cart);
    }

    // ---- when

    public int level(int set, int e, int step) {
        if (set < 0 || (set >> world.plan.cells) != 0) {
            return UNKNOWN;
        }
        if (set == 0 || isOff(e, 0, 99) || isNoStep(step)) {
            return OUTSIDE;
        }
        int period = world.plan.period();
        for (int i = 0; i < period; i++) {
            if (world.spreadOf(set, step + i) <= e) {
                return i;
            }
        }
        return NONE;
    }

    public int aslant(int step) {
        if (isNoStep(step)) {
            return OUTSIDE;
        }
        if (world.plan.cells == 0) {
            return NOT;
        }
        if (world.plan.cells == 1) {
            return NONE;
        }
        int period = world.plan.period();
        for (int i = 0; i < period; i++) {
            if (world.isAslant(step + i)) {
                return i;
            }
        }
        return NONE;
    }

    public int turn(int x, int y, int step) {
        int c = world.plan.cellAt(x, y);
        if (c == NONE) {
            return UNKNOWN;
        }
        if (isOff(step, 1, LAST_STEP)) {
            return OUTSIDE;
        }
        int period = world.plan.period();
        for (int i = 0; i < period; i++) {
            if (world.isTurn(c, step + i)) {
                return i;
            }
        }
        return NONE;
    }

    public int most(int x, int y, int step, int what) {
        int c = world.plan.cellAt(x, y);
        if (c == NONE) {
            return UNKNOWN;
        }
        if (isNoStep(step) || isOff(what, 0, 1)) {
            return OUTSIDE;
        }
        int period = world.plan.period();
        int best = step;
        int greatest = world.pullAt(c, step, NONE);
        for (int i = 1; i < period; i++) {
            int pull = world.pullAt(c, step + i, NONE);
            if (pull > greatest) {
                greatest = pull;
                best = step + i;
            }
        }
        return what == 0 ? best : greatest;
    }

    public int bell(int x, int y, int limit, int step, int what) {
        int c = world.plan.cellAt(x, y);
        if (c == NONE) {
            return UNKNOWN;
        }
        if (isOff(limit, 0, 999) || isNoStep(step) || isOff(what, 0, 1)) {
            return OUTSIDE;
        }
        int period = world.plan.period();
        int rings = 0;
        for (int i = 0; i < period; i++) {
            if (world.leanAt(c, step + i, NONE) > limit) {
                if (what == 0) {
                    return i;
                }
                rings++;
            }
        }
        return what == 0 ? NONE : rings;
    }

    public int breaks(int step, int what) {
        if (isNoStep(step) || isOff(what, 0, 1)) {
            return OUTSIDE;
        }
        int period = world.plan.period();
        for (int i = 0; i < period; i++) {
            int h = world.leastBroken(step + i);
            if (h != NONE) {
                return what == 0 ? step + i : h;
            }
        }
        return NONE;
    }

    public int props(int size) {
        if (isOff(size, 1, 20)) {
            return OUTSIDE;
        }
        int sum = 0;
        for (int h = 0; h < world.plan.houses.count; h++) {
            sum += (world.needOf(h) + size - 1) / size;
        }
        return sum;
    }

    // ---- the cart, tried

    public int soonest(int from, int to, int step) {
        int start = world.plan.cellOfPair(from);
        int goal = world.plan.cellOfPair(to);
        if (start == NONE || goal == NONE) {
            return UNKNOWN;
        }
        if (isNoStep(step)) {
            return OUTSIDE;
        }
        return routes.fewestSteps(start, goal, step);
    }

    public int least(int from, int to, int step, int n, int i) {
        int start = world.plan.cellOfPair(from);
        int goal = world.plan.cellOfPair(to);
        if (start == NONE || goal == NONE) {
            return UNKNOWN;
        }
        if (isNoStep(step) || isOff(n, 1, MOST_LEAST)) {
            return OUTSIDE;
        }
        int pushed = routes.leastPushed(start, goal, step, n);
        if (i == NONE || pushed == NONE) {
            return pushed;
        }
        return routes.wayTaken(start, goal, n, i);
    }

    // ---- wells, deeds

    public int water(int v, int step, int what) {
        if (isOff(v, 0, 9999) || isNoStep(step) || isOff(what, 0, 2)) {
            return OUTSIDE;
        }
        if (world.plan.wells.count == 0) {
            return NOT;
        }
        wells.settle(v, step);
        if (what == 0) {
            return wells.above;
        }
        return what == 1 ? wells.below : wells.wetWells();
    }

    public int whose(int d, int step) {
        if (!world.plan.deeds.has(d)) {
            return UNKNOWN;
        }
        if (isNoStep(step)) {
            return OUTSIDE;
        }
        return world.cellsWithin(d, step);
    }

    public int stays(int d) {
        if (!world.plan.deeds.has(d)) {
            return UNKNOWN;
        }
        int period = world.plan.period();
        int set = world.cellsWithin(d, 0);
        for (int t = 1; t < period; t++) {
            set &= world.cellsWithin(d, t);
        }
        return set;
    }

    // ---- what was seen

    public int see(int x, int y, int step, int height) {
        int c = world.plan.cellAt(x, y);
        if (c == NONE) {
            return UNKNOWN;
        }
        if (isOff(step, 0, 999) || isOff(height, -999, 999)) {
            return OUTSIDE;
        }
        if (sightings.count >= MOST_SEEN) {
            return FULL;
        }
        sightings.add(c, step, height);
        return sightings.count;
    }

    public int fits(int i, int k) {
        if (i != NONE && isNoMoon(k)) {
            return UNKNOWN;
        }
        int found = sightings.findFits();
        if (i == NONE) {
            return found;
        }
        return isOff(i, 0, found - 1) ? NONE : sightings.shiftIn(i, k);
    }

    public int look(int what) {
        if (isOff(what, 0, 2)) {
            return OUTSIDE;
        }
        if (!sightings.findBestLook()) {
            return NONE;
        }
        if (what == 0) {
            return world.plan.pairOf(sightings.lookCell);
        }
        return what == 1 ? sightings.lookStep : sightings.lookLeft;
    }

    public int odds(int k, int q, int x, int y, int limit, int step) {
        int c = world.plan.cellAt(x, y);
        if (isNoMoon(k) || c == NONE) {
            return UNKNOWN;
        }
        if (isOff(q, 0, 100) || isOff(limit, 0, 999) || isNoStep(step)) {
            return OUTSIDE;
        }
        int share = BILLION / 100 * q;
        int sum = 0;
        if (world.leanAt(c, step, NONE) > limit) {
            sum += share;
        }
        if (world.leanAt(c, step, k) > limit) {
            sum += BILLION - share;
        }
        return sum;
    }

    // ---- books, draws, images

    public int write(int way) {
        if (isNoWay(way)) {
            return OUTSIDE;
        }
        if (bookCount >= MOST_WRITTEN) {
            return FULL;
        }
        book[bookCount] = way;
        bookCount++;
        return bookCount;
    }

    public int tear() {
        int had = bookCount + sightings.count;
        bookCount = 0;
        sightings.count = 0;
        return had;
    }

    public int judge(int what) {
        if (isOff(what, 0, 1)) {
            return OUTSIDE;
        }
        if (world.plan.cells == 0) {
            return NOT;
        }
        int c = now.cart;
        int pushed = 0;
        for (int i = 0; i < bookCount; i++) {
            int there = world.plan.beside(c, book[i]);
            int push = world.pushTo(c, there, now.step + 1 + i);
            if (push == NONE) {
                return what == 0 ? i : pushed;
            }
            pushed += push;
            c = there;
        }
        return what == 0 ? NONE : pushed;
    }

    public int seed(int v) {
        if (v < 0) {
            return OUTSIDE;
        }
        int was = now.seed;
        now.seed = v;
        return was;
    }

    public int keep(int i) {
        if (isOff(i, 0, IMAGES - 1)) {
            return UNKNOWN;
        }
        images[i].copyFrom(now);
        images[i].kept = true;
        return 1;
    }

    public int goBack(int i) {
        if (isOff(i, 0, IMAGES - 1)) {
            return UNKNOWN;
        }
        if (!images[i].kept) {
            return NOT;
        }
        now.copyFrom(images[i]);
        return 1;
    }

    // ---- what several calls need

    private static boolean isOff(int v, int low, int high) {
        return v < low || v > high;
    }

    private static boolean isNoStep(int step) {
        return isOff(step, 0, LAST_STEP);
    }

    private static boolean isNoWay(int way) {
        return isOff(way, 0, WAYS - 1);
    }

    private boolean isNoMoon(int i) {
        return isOff(i, 0, world.plan.moonCount - 1);
    }

    private static int leftOver(int v, int n) {
        return n < 1 ? 0 : v % n;
    }

    /** The greatest number that divides both; Euclid needs under fifty rounds for any two ints. */
    private static int greatestDivisor(int a, int b) {
        int high = Math.abs(a);
        int low = Math.abs(b);
        for (int i = 0; i < 64 && low != 0; i++) {
            int rest = high % low;
            high = low;
            low = rest;
        }
        return high;
    }

    /** One moon. A moon that was not told has a row of one 0, so that sums over all three need no test. */
    private static final class Moon {
        int size;
        int perX;
        int perY;
        /** The row twice over, so that a place and a shift, each below its size, need no remainder. */
        final int[] row = new int[2 * LONGEST_ROW];
        /** How far on in its row it is at each cell. */
        final int[] ahead = new int[MOST_CELLS];

        void clear() {
            size = 1;
            perX = 0;
            perY = 0;
            for (int i = 0; i < row.length; i++) {
                row[i] = 0;
            }
            for (int c = 0; c < MOST_CELLS; c++) {
                ahead[c] = 0;
            }
        }

        void settle(int length, int width, int cells) {
            size = length;
            for (int i = 0; i < size && size + i < row.length; i++) {
                row[size + i] = row[i];
            }
            for (int c = 0; c < cells && width > 0; c++) {
                ahead[c] = perX * (c % width) + perY * (c / width);
            }
        }

        /** Where in its row it is without its shift. */
        int placeAt(int cell, int step) {
            return size < 1 ? 0 : (step + ahead[cell]) % size;
        }

        int partAt(int cell, int step, int shift) {
            return size < 1 ? 0 : row[(step + ahead[cell]) % size + shift];
        }
    }

    /** Things told by clauses of one kind: houses (hinge), cracks (way, limit), wells (depth), deeds (from, to). */
    private static final class Sites {
        int count;
        final int[] cell = new int[MOST_SITES];
        final int[] first = new int[MOST_SITES];
        final int[] second = new int[MOST_SITES];

        boolean has(int i) {
            return i >= 0 && i < count;
        }

        boolean stands(int c) {
            for (int i = 0; i < count; i++) {
                if (cell[i] == c) {
                    return true;
                }
            }
            return false;
        }

        /** The number of the one on this cell with this first number, or NONE. */
        int find(int c, int a) {
            for (int i = 0; i < count; i++) {
                if (cell[i] == c && first[i] == a) {
                    return i;
                }
            }
            return NONE;
        }

        void add(int c, int a, int b) {
            if (count < MOST_SITES) {
                cell[count] = c;
                first[count] = a;
                second[count] = b;
                count++;
            }
        }
    }

    /** What a text tells; it stays as it is until the next text. */
    private static final class Plan {
        int width;
        int depth;
        int cells;
        final int[] base = new int[MOST_CELLS];
        final int[] softness = new int[MOST_CELLS];
        int moonCount;
        final Moon[] moons = new Moon[MOST_MOONS];
        final Sites houses = new Sites();
        final Sites cracks = new Sites();
        final Sites wells = new Sites();
        final Sites deeds = new Sites();

        Plan() {
            for (int i = 0; i < MOST_MOONS; i++) {
                moons[i] = new Moon();
            }
            clear();
        }

        void clear() {
            width = 0;
            depth = 0;
            cells = 0;
            moonCount = 0;
            for (int i = 0; i < MOST_MOONS; i++) {
                moons[i].clear();
            }
            houses.count = 0;
            cracks.count = 0;
            wells.count = 0;
            deeds.count = 0;
        }

        int cellAt(int x, int y) {
            boolean inside = x >= 0 && x < width && y >= 0 && y < depth;
            return inside ? y * width + x : NONE;
        }

        int cellOfPair(int pair) {
            return pair < 0 ? NONE : cellAt(pair / 10, pair % 10);
        }

        int pairOf(int cell) {
            return width < 1 ? 0 : cell % width * 10 + cell / width;
        }

        /** The cell that a step of the cart leads to; staying leads to the cell itself. */
        int beside(int cell, int way) {
            if (width < 1 || way < 0 || way >= WAYS) {
                return NONE;
            }
            return cellAt(cell % width + WAY_X[way], cell / width + WAY_Y[way]);
        }

        int period() {
            int steps = 1;
            for (int i = 0; i < moonCount; i++) {
                int size = moons[i].size;
                int shared = greatestDivisor(steps, size);
                steps = shared < 1 ? steps : steps / shared * size;
            }
            return steps;
        }
    }

    /** Reads a text into a plan, up to its first fault. Once there is a fault, all further reading does nothing. */
    private static final class Reader {
        private int[] text;
        private int length;
        private int at;
        private Plan plan;
        private int faultNumber;
        int faultAt;
        private int numberAt;
        private int changedCells;
        private int changedCount;

        /** The number of the fault, or 0. */
        int readText(int[] letters, int count, Plan into) {
            text = letters;
            length = Math.min(count, letters.length);
            at = 0;
            plan = into;
            plan.clear();
            faultNumber = 0;
            faultAt = NONE;
            changedCells = 0;
            changedCount = 0;
            for (int i = 0; i <= length && faultNumber == 0; i++) {
                skipBlanks();
                if (at >= length) {
                    break;
                }
                readClause();
            }
            return faultNumber;
        }

        private void readClause() {
            int wordAt = at;
            int word = text[at];
            at++;
            if (plan.cells == 0 && word != 'g') {
                refuseIf(true, 1, wordAt);
                return;
            }
            switch (word) {
                case 'g': readGround(wordAt); break;
                case 'c': readCell(wordAt); break;
                case 'm': readMoon(wordAt); break;
                case 'h': readHouse(wordAt); break;
                case 'k': readCrack(wordAt); break;
                case 'w': readWell(wordAt); break;
                case 'd': readDeed(wordAt); break;
                default: refuseIf(true, 1, wordAt);
            }
        }

        private void readGround(int wordAt) {
            refuseIf(plan.cells > 0, 3, wordAt);
            int width = readNumber(1, 6);
            int depth = readNumber(1, 6);
            refuseIf(width * depth > MOST_CELLS, 2, numberAt);
            int base = readNumber(0, 99);
            int softness = readNumber(0, 9);
            readSign(';');
            if (faultNumber != 0) {
                return;
            }
            plan.width = width;
            plan.depth = depth;
            plan.cells = width * depth;
            for (int c = 0; c < plan.cells; c++) {
                plan.base[c] = base;
                plan.softness[c] = softness;
            }
        }

        private void readCell(int wordAt) {
            refuseIf(changedCount >= MOST_CHANGED, 3, wordAt);
            int c = readPlace();
            refuseIf((changedCells >> c & 1) != 0, 4, numberAt);
            int base = readNumber(0, 99);
            int softness = readNumber(0, 9);
            readSign(';');
            if (faultNumber == 0) {
                plan.base[c] = base;
                plan.softness[c] = softness;
                changedCells |= 1 << c;
                changedCount++;
            }
        }

        private void readMoon(int wordAt) {
            refuseIf(plan.moonCount >= MOST_MOONS, 3, wordAt);
            if (faultNumber != 0) {
                return;
            }
            Moon m = plan.moons[plan.moonCount];
            m.perX = readNumber(0, 8);
            m.perY = readNumber(0, 8);
            int size = readRow(m.row);
            readSign(';');
            if (faultNumber == 0) {
                m.settle(size, plan.width, plan.cells);
                plan.moonCount++;
            }
        }

        /** How many numbers the row has; behind nine a further ',' is left for the ';' to be missed at it. */
        private int readRow(int[] row) {
            int size = 0;
            while (size < LONGEST_ROW && faultNumber == 0) {
                row[size] = readNumber(0, 18) - 9;
                size++;
                skipBlanks();
                if (size == LONGEST_ROW || at >= length || text[at] != ',') {
                    break;
                }
                at++;
            }
            refuseIf(size < 2, 1, at);
            return size;
        }

        private void readHouse(int wordAt) {
            refuseIf(plan.houses.count >= MOST_HOUSES, 3, wordAt);
            int c = readPlace();
            refuseIf(plan.houses.stands(c), 4, numberAt);
            int hinge = readNumber(0, 99);
            readSign(';');
            addTo(plan.houses, c, hinge, 0);
        }

        private void readCrack(int wordAt) {
            refuseIf(plan.cracks.count >= MOST_CRACKS, 3, wordAt);
            int c = readPlace();
            int side = readNumber(0, 1);
            refuseIf(plan.beside(c, side == 0 ? EAST : SOUTH) == NONE, 2, numberAt);
            refuseIf(plan.cracks.find(c, side) != NONE, 4, numberAt);
            int limit = readNumber(0, 60);
            readSign(';');
            addTo(plan.cracks, c, side, limit - 30);
        }

        private void readWell(int wordAt) {
            refuseIf(plan.wells.count >= MOST_WELLS, 3, wordAt);
            int c = readPlace();
            refuseIf(plan.wells.stands(c), 4, numberAt);
            int deep = readNumber(0, 99);
            readSign(';');
            addTo(plan.wells, c, deep, 0);
        }

        private void readDeed(int wordAt) {
            refuseIf(plan.deeds.count >= MOST_DEEDS, 3, wordAt);
            int low = readNumber(0, 300);
            int high = readNumber(0, 300);
            refuseIf(high < low, 4, numberAt);
            readSign(';');
            addTo(plan.deeds, 0, low - 100, high - 100);
        }

        private void addTo(Sites sites, int c, int a, int b) {
            if (faultNumber == 0) {
                sites.add(c, a, b);
            }
        }

        /** X and Y of a cell; 0 with a fault, so that it can be used all the same. */
        private int readPlace() {
            int x = readNumber(0, plan.width - 1);
            int y = readNumber(0, plan.depth - 1);
            int c = plan.cellAt(x, y);
            return faultNumber != 0 || c == NONE ? 0 : c;
        }

        /** A number within bounds; 0 with a fault. */
        private int readNumber(int low, int high) {
            skipBlanks();
            refuseIf(at >= length || !isFigure(text[at]), 1, at);
            if (faultNumber != 0) {
                return 0;
            }
            numberAt = at;
            int v = 0;
            while (at < length && isFigure(text[at])) {
                // Past three figures the value is free: the number is refused by its length.
                v = at - numberAt < 3 ? v * 10 + text[at] - '0' : v;
                at++;
            }
            refuseIf(at - numberAt > 3 || isOff(v, low, high), 2, numberAt);
            return faultNumber == 0 ? v : 0;
        }

        private void readSign(int sign) {
            skipBlanks();
            refuseIf(at >= length || text[at] != sign, 1, at);
            at++;
        }

        private void skipBlanks() {
            while (at < length && text[at] == ' ') {
                at++;
            }
        }

        private static boolean isFigure(int letter) {
            return letter >= '0' && letter <= '9';
        }

        private void refuseIf(boolean wrong, int number, int where) {
            if (wrong && faultNumber == 0) {
                faultNumber = number;
                faultAt = where;
            }
        }
    }

    /** What changes from call to call, and what an image keeps. */
    private static final class State {
        int step;
        final int[] shifts = new int[MOST_MOONS];
        final int[] loads = new int[MOST_CELLS];
        final int[] props = new int[MOST_SITES];
        int cart;
        int pushed;
        int steep = FIRST_STEEP;
        int seed;
        /** Of an image: whether there is one. */
        boolean kept;

        /** As at first, but for the seed, which outlives a new ground. */
        void restart() {
            step = 0;
            for (int i = 0; i < MOST_MOONS; i++) {
                shifts[i] = 0;
            }
            for (int i = 0; i < MOST_CELLS; i++) {
                loads[i] = 0;
            }
            for (int i = 0; i < MOST_SITES; i++) {
                props[i] = 0;
            }
            cart = 0;
            pushed = 0;
            steep = FIRST_STEEP;
        }

        void copyFrom(State other) {
            step = other.step;
            for (int i = 0; i < MOST_MOONS; i++) {
                shifts[i] = other.shifts[i];
            }
            for (int i = 0; i < MOST_CELLS; i++) {
                loads[i] = other.loads[i];
            }
            for (int i = 0; i < MOST_SITES; i++) {
                props[i] = other.props[i];
            }
            cart = other.cart;
            pushed = other.pushed;
            steep = other.steep;
            seed = other.seed;
        }
    }

    /** The plan as it stands now: pulls, heights, leaning, the cart's steps. */
    private static final class World {
        Plan plan;
        final State now;

        World(Plan plan, State now) {
            this.plan = plan;
            this.now = now;
        }

        /** The pull without the moon gone; NONE: all are there. */
        int pullAt(int cell, int step, int gone) {
            int sum = 0;
            for (int i = 0; i < plan.moonCount; i++) {
                if (i != gone) {
                    sum += plan.moons[i].partAt(cell, step, now.shifts[i]);
                }
            }
            return sum;
        }

        int stiffOf(int cell) {
            return Math.max(0, plan.softness[cell] - now.loads[cell] / 10);
        }

        int heightAt(int cell, int step, int gone) {
            return plan.base[cell] + stiffOf(cell) * pullAt(cell, step, gone);
        }

        int leanAt(int cell, int step, int gone) {
            int here = heightAt(cell, step, gone);
            int lean = 0;
            for (int way = 1; way < WAYS; way++) {
                int there = plan.beside(cell, way);
                if (there != NONE) {
                    lean = Math.max(lean, Math.abs(heightAt(there, step, gone) - here));
                }
            }
            return lean;
        }

        boolean isBroken(int h, int step) {
            return leanAt(plan.houses.cell[h], step, NONE) > plan.houses.first[h] + now.props[h];
        }

        int leastBroken(int step) {
            for (int h = 0; h < plan.houses.count; h++) {
                if (isBroken(h, step)) {
                    return h;
                }
            }
            return NONE;
        }

        int needOf(int h) {
            int period = plan.period();
            int worst = 0;
            for (int t = 0; t < period; t++) {
                worst = Math.max(worst, leanAt(plan.houses.cell[h], t, NONE));
            }
            return Math.max(0, worst - plan.houses.first[h]);
        }

        boolean isOpen(int k, int step) {
            return pullAt(plan.cracks.cell[k], step, NONE) > plan.cracks.second[k];
        }

        /** By how much the heights of the cells of a set differ. */
        int spreadOf(int set, int step) {
            int low = 0;
            int high = 0;
            boolean found = false;
            for (int c = 0; c < plan.cells; c++) {
                if ((set >> c & 1) != 0) {
                    int height = heightAt(c, step, NONE);
                    low = found ? Math.min(low, height) : height;
                    high = found ? Math.max(high, height) : height;
                    found = true;
                }
            }
            return high - low;
        }

        boolean isAslant(int step) {
            for (int c = 0; c < plan.cells; c++) {
                if (isLike(c, plan.beside(c, EAST), step) || isLike(c, plan.beside(c, SOUTH), step)) {
                    return false;
                }
            }
            return true;
        }

        private boolean isLike(int c, int other, int step) {
            return other != NONE && heightAt(c, step, NONE) == heightAt(other, step, NONE);
        }

        boolean isTurn(int c, int step) {
            int height = heightAt(c, step, NONE);
            int before = heightAt(c, step - 1, NONE);
            int after = heightAt(c, step + 1, NONE);
            return before < height && after < height || before > height && after > height;
        }

        int cellsWithin(int d, int step) {
            int set = 0;
            for (int c = 0; c < plan.cells; c++) {
                if (!isOff(heightAt(c, step, NONE), plan.deeds.first[d], plan.deeds.second[d])) {
                    set |= 1 << c;
                }
            }
            return set;
        }

        /** What is pushed from a cell to one beside it (or itself) at the step when; NONE: it may not go there. */
        int pushTo(int cell, int there, int when) {
            if (there == cell) {
                return 0;
            }
            if (there == NONE) {
                return NONE;
            }
            int k = crackBetween(cell, there);
            if (k != NONE && isOpen(k, when)) {
                return NONE;
            }
            int slope = heightAt(there, when, NONE) - heightAt(cell, when, NONE);
            return slope > now.steep ? NONE : Math.max(slope, 0);
        }

        /** A crack belongs to the western or northern cell of the two, which has the lesser number. */
        private int crackBetween(int cell, int there) {
            int own = Math.min(cell, there);
            int side = plan.beside(own, EAST) == Math.max(cell, there) ? 0 : 1;
            return plan.cracks.find(own, side);
        }

        /** The cart takes a step that may be. */
        void takeStep(int there, int push) {
            now.cart = there;
            now.step++;
            now.pushed = Math.min(MOST_PUSHED, now.pushed + push);
        }

        void stepByDraws() {
            int there = plan.beside(now.cart, draw(WAYS));
            int push = pushTo(now.cart, there, now.step + 1);
            if (push == NONE) {
                takeStep(now.cart, 0);
            } else {
                takeStep(there, push);
            }
            if (draw(12) == 0) {
                int c = draw(plan.cells);
                now.loads[c] = Math.min(HEAVIEST, now.loads[c] + draw(30));
            }
        }

        private int draw(int n) {
            // The low 31 bits of a product that wraps around are what is left over by 2 to the 31.
            now.seed = now.seed * 1103515245 + 12345 & 0x7fffffff;
            return leftOver(now.seed / 65536, n);
        }
    }

    /** Ways of the cart that are tried, not taken. */
    private static final class Routes {
        private static final int NEVER = 1000000000;

        private final World world;
        /** What is pushed from each cell to the goal, by the steps that are left. */
        private int[] cost = new int[MOST_CELLS];
        private int[] nextCost = new int[MOST_CELLS];
        /** The first of the best ways for each step and cell. */
        private final int[] choice = new int[MOST_LEAST * MOST_CELLS];

        Routes(World world) {
            this.world = world;
        }

        int fewestSteps(int start, int goal, int step) {
            int reached = 1 << start;
            for (int n = 0; n <= MOST_SOONEST; n++) {
                if ((reached >> goal & 1) != 0) {
                    return n;
                }
                reached = reachedNext(reached, step + n + 1);
            }
            return NONE;
        }

        private int reachedNext(int reached, int when) {
            int next = reached;
            for (int c = 0; c < world.plan.cells; c++) {
                for (int way = 1; way < WAYS && (reached >> c & 1) != 0; way++) {
                    int there = world.plan.beside(c, way);
                    if (world.pushTo(c, there, when) != NONE) {
                        next |= 1 << there;
                    }
                }
            }
            return next;
        }

        /** Fills choice, from the last step back, and answers what is pushed; NONE: it can't come there. */
        int leastPushed(int start, int goal, int step, int n) {
            for (int c = 0; c < world.plan.cells; c++) {
                cost[c] = c == goal ? 0 : NEVER;
            }
            for (int i = n - 1; i >= 0; i--) {
                int[] later = cost;
                cost = nextCost;
                nextCost = later;
                for (int c = 0; c < world.plan.cells; c++) {
                    choose(c, goal, i, step + i + 1);
                }
            }
            return cost[start] >= NEVER ? NONE : cost[start];
        }

        private void choose(int c, int goal, int i, int when) {
            int best = NEVER;
            int bestWay = 0;
            for (int way = 0; way < WAYS && c != goal; way++) {
                int there = world.plan.beside(c, way);
                int push = world.pushTo(c, there, when);
                if (push != NONE && push + nextCost[there] < best) {
                    best = push + nextCost[there];
                    bestWay = way;
                }
            }
            cost[c] = c == goal ? 0 : best;
            choice[i * MOST_CELLS + c] = bestWay;
        }

        /** Step i of what leastPushed found; NONE: it has not so many. */
        int wayTaken(int start, int goal, int n, int i) {
            int c = start;
            for (int k = 0; k < n && c != goal && c != NONE; k++) {
                int way = choice[k * MOST_CELLS + c];
                if (k == i) {
                    return way;
                }
                c = world.plan.beside(c, way);
            }
            return NONE;
        }
    }

    /** Water in wells that are joined. */
    private static final class Wells {
        private final World world;
        private final int[] floors = new int[MOST_WELLS];
        private final int[] sorted = new int[MOST_WELLS];
        /** The level, as a fraction in lowest terms. */
        int above;
        int below;

        Wells(World world) {
            this.world = world;
            below = 1;
        }

        void settle(int v, int step) {
            int count = world.plan.wells.count;
            for (int i = 0; i < count; i++) {
                floors[i] = world.heightAt(world.plan.wells.cell[i], step, NONE) - world.plan.wells.first[i];
                insert(floors[i], i);
            }
            int sum = v;
            for (int i = 0; i < count; i++) {
                sum += sorted[i];
                if (i == count - 1 || sum <= sorted[i + 1] * (i + 1)) {
                    reduce(sum, i + 1);
                    return;
                }
            }
        }

        private void insert(int floor, int filled) {
            int i = filled;
            while (i > 0 && sorted[i - 1] > floor) {
                sorted[i] = sorted[i - 1];
                i--;
            }
            sorted[i] = floor;
        }

        private void reduce(int sum, int parts) {
            int shared = Math.max(1, greatestDivisor(sum, parts));
            above = sum / shared;
            below = parts / shared;
        }

        int wetWells() {
            int set = 0;
            for (int i = 0; i < world.plan.wells.count; i++) {
                if (floors[i] * below < above) {
                    set |= 1 << i;
                }
            }
            return set;
        }
    }

    /** Heights that were seen, and the shifts by which they can be. */
    private static final class Sightings {
        private static final int MOST_FITS = LONGEST_ROW * LONGEST_ROW * LONGEST_ROW;
        private static final int STEPS_TO_LOOK = 12;
        private static final int GREATEST_PULL = 9 * MOST_MOONS;

        private final World world;
        int count;
        private final int[] cells = new int[MOST_SEEN];
        private final int[] steps = new int[MOST_SEEN];
        private final int[] heights = new int[MOST_SEEN];
        /** One number for each that fits: four bits a moon. */
        private final int[] found = new int[MOST_FITS];
        private int foundCount;
        private final int[] byPull = new int[2 * GREATEST_PULL + 1];
        int lookCell;
        int lookStep;
        int lookLeft;

        Sightings(World world) {
            this.world = world;
        }

        void add(int cell, int step, int height) {
            if (count < MOST_SEEN) {
                cells[count] = cell;
                steps[count] = step;
                heights[count] = height;
                count++;
            }
        }

        int findFits() {
            Moon[] moons = world.plan.moons;
            foundCount = 0;
            for (int a = 0; a < moons[0].size; a++) {
                for (int b = 0; b < moons[1].size; b++) {
                    for (int c = 0; c < moons[2].size; c++) {
                        addIfFit(a | b << 4 | c << 8);
                    }
                }
            }
            return foundCount;
        }

        private void addIfFit(int shifts) {
            for (int i = 0; i < count; i++) {
                int c = cells[i];
                if (world.plan.base[c] + world.stiffOf(c) * pullBy(shifts, c, steps[i]) != heights[i]) {
                    return;
                }
            }
            if (foundCount < MOST_FITS) {
                found[foundCount] = shifts;
                foundCount++;
            }
        }

        private int pullBy(int shifts, int cell, int step) {
            int sum = 0;
            for (int i = 0; i < MOST_MOONS; i++) {
                sum += world.plan.moons[i].partAt(cell, step, shiftOf(shifts, i));
            }
            return sum;
        }

        private static int shiftOf(int shifts, int moon) {
            return shifts >> 4 * moon & 15;
        }

        int shiftIn(int i, int moon) {
            return i < 0 || i >= foundCount ? NONE : shiftOf(found[i], moon);
        }

        /** Whether there is a look that leaves fewer; it is in lookCell, lookStep, lookLeft then. */
        boolean findBestLook() {
            findFits();
            int best = foundCount;
            for (int step = 0; step < STEPS_TO_LOOK; step++) {
                for (int c = 0; c < world.plan.cells; c++) {
                    int left = mostAlike(c, step, best);
                    if (left < best) {
                        best = left;
                        lookCell = c;
                        lookStep = step;
                        lookLeft = left;
                    }
                }
            }
            return best < foundCount;
        }

        /** How many have the height that most have; enough, as soon as there are so many. */
        private int mostAlike(int cell, int step, int enough) {
            if (world.stiffOf(cell) == 0) {
                return foundCount;
            }
            for (int i = 0; i < byPull.length; i++) {
                byPull[i] = 0;
            }
            Moon[] moons = world.plan.moons;
            int a = moons[0].placeAt(cell, step);
            int b = moons[1].placeAt(cell, step);
            int c = moons[2].placeAt(cell, step);
            int greatest = 0;
            for (int i = 0; i < foundCount && greatest < enough; i++) {
                int shifts = found[i];
                int pull = moons[0].row[a + (shifts & 15)] + moons[1].row[b + (shifts >> 4 & 15)]
                    + moons[2].row[c + (shifts >> 8 & 15)] + GREATEST_PULL;
                byPull[pull]++;
                greatest = Math.max(greatest, byPull[pull]);
            }
            return greatest;
        }
    }
}
