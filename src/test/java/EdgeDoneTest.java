/** The edges that the document names, promises 11 to 17: pass, roll, steep, load, prop, shift, drift. */
public final class EdgeDoneTest {
    public static void main(String[] args) {
        stepsThatPass();
        fullAbove900000();
        theCartStays();
        waysToRoll();
        noCellThere();
        notAboveSteep();
        pushedOrNot();
        atTheStepThatComes();
        overACrack();
        stayingMayAlwaysBe();
        fullAt900000();
        steepBounds();
        loadBounds();
        propBounds();
        shiftBounds();
        stepsOfDrift();
        fullAbove899000();
        driftWithoutCells();
        leftOverBy2ToThe31();
        eachWayDrawn();
        elseItStays();
        loadsDrawn();
        ninetyAtMost();
        loadsByAllCells();
        Check.end();
    }

    private static void stepsThatPass() {
        Edge.says("Promise 11 (pass)", "n steps pass (1 .. 9999)");
        TidedGround g = Check.of(Check.SMALL);
        Edge.due("pass(1)", g.pass(1), 1);
        Edge.due("pass(9999)", g.pass(9999), 10000);
        Edge.outsideOf("pass", 1, 9999, g, v -> o -> o.pass(v));
        Edge.due("told(8)", g.told(8), 10000);
        Edge.due("without cells", new TidedGround().pass(9999), 9999);
    }

    private static void fullAbove900000() {
        Edge.says("Promise 11 (pass)", "FULL: it would be above 900000");
        TidedGround g = Edge.late("g1 1 0 0;", 890001);
        Edge.due("pass(9999) to 900000", g.pass(9999), Edge.LAST_STEP);
        Edge.due("pass(1) at 900000", g.pass(1), Check.FULL);
        Edge.due("pass(9999) at 900000", g.pass(9999), Check.FULL);
        Edge.due("pass(0) at 900000", g.pass(0), Check.OUTSIDE);
        Edge.due("pass(10000) at 900000", g.pass(10000), Check.OUTSIDE);
        Edge.due("told(8)", g.told(8), Edge.LAST_STEP);
        TidedGround before = Edge.late("g1 1 0 0;", 890002);
        Edge.due("pass(9999) to 900001", before.pass(9999), Check.FULL);
        Edge.due("told(8) behind it", before.told(8), 890002);
        Edge.due("pass(9998) to 900000", before.pass(9998), Edge.LAST_STEP);
        TidedGround none = new TidedGround();
        Edge.due("without cells too", Edge.waited(none, Edge.LAST_STEP).pass(1), Check.FULL);
    }

    private static void theCartStays() {
        Edge.says("Promise 11 (pass)", "the cart stays: THE STEP");
        TidedGround g = Check.of("g2 1 0 0;c1 0 9 0;m0 0 9,9;");
        g.roll(2);
        Edge.due("pass(5)", g.pass(5), 6);
        Edge.due("told(10)", g.told(10), 10);
        Edge.due("told(11)", g.told(11), 9);
    }

    private static void waysToRoll() {
        Edge.says("Promise 12 (roll)", "THE CART takes a STEP (0 .. 4): what was PUSHED by it. OUTSIDE");
        int[] pairs = {11, 10, 21, 12, 1};
        for (int way = 0; way <= 4; way++) {
            TidedGround g = Check.of("g3 3 0 0;");
            g.roll(2);
            g.roll(3);
            Edge.due("roll(" + way + ")", g.roll(way), 0);
            Edge.due("told(10) behind it", g.told(10), pairs[way]);
            Edge.due("told(8) behind it", g.told(8), 3);
        }
        TidedGround g = Check.of("g3 3 0 0;");
        Edge.outsideOf("roll", 0, 4, g, v -> o -> o.roll(v));
        Edge.outsideOf("roll without cells", 0, 4, new TidedGround(), v -> o -> o.roll(v));
        Edge.due("told(8)", g.told(8), 0);
    }

    private static void noCellThere() {
        Edge.says("Promise 12 (roll)", "NOT: it may not, no CELLS");
        TidedGround one = Check.of("g1 1 0 0;");
        for (int way = 1; way <= 4; way++) {
            Edge.due("one cell, roll(" + way + ")", one.roll(way), Check.NOT);
        }
        Edge.due("one cell, roll(0)", one.roll(0), 0);
        TidedGround g = Check.of("g2 2 0 0;");
        int[][] off = {{1, 4}, {1, 2}, {3, 2}, {3, 4}};
        int[] onward = {2, 3, 4, 1};
        for (int corner = 0; corner < 4; corner++) {
            for (int way : off[corner]) {
                Edge.due("corner " + corner + ", roll(" + way + ")", g.roll(way), Check.NOT);
            }
            Edge.due("corner " + corner + ", onward", g.roll(onward[corner]), 0);
        }
        Edge.due("told(8): what was refused took no step", g.told(8), 4);
        Edge.due("told(10): round", g.told(10), 0);
        TidedGround none = new TidedGround();
        for (int way = 0; way <= 4; way++) {
            Edge.due("no cells, roll(" + way + ")", none.roll(way), Check.NOT);
        }
        Edge.due("no cells, told(8)", none.told(8), 0);
    }

    private static void notAboveSteep() {
        Edge.says("Promise 12 (roll), row 3", "SLOPE must not be above STEEP (20 at first, 0 .. 99)");
        Edge.due("20 by 20", Check.of("g2 1 0 0;c1 0 20 0;").roll(2), 20);
        Edge.due("21 by 20", Check.of("g2 1 0 0;c1 0 21 0;").roll(2), Check.NOT);
        for (int steep : new int[] {0, 1, 98, 99}) {
            TidedGround g = Check.of("g2 1 0 0;c1 0 " + steep + " 0;");
            g.steep(steep);
            Edge.due(steep + " by " + steep, g.roll(2), steep);
        }
        TidedGround above = Check.of("g2 1 0 0;c1 0 99 0;");
        above.steep(98);
        Edge.due("99 by 98", above.roll(2), Check.NOT);
        TidedGround one = Check.of("g2 1 0 0;c1 0 1 0;");
        one.steep(0);
        Edge.due("1 by 0", one.roll(2), Check.NOT);
        TidedGround far = Check.of("g2 1 99 9;c1 0 0 9;m1 0 18,0;");
        far.steep(99);
        // At step 1: 18 to 81 the one way up.
        Edge.due("63 by 99", far.roll(2), 63);
        TidedGround past = Check.of("g2 1 0 9;c1 0 19 9;m1 0 18,0;");
        past.steep(99);
        Edge.due("181 at step 1 by 99", past.roll(2), Check.NOT);
        past.pass(1);
        Edge.due("181 at step 3 by 99", past.soonest(0, 10, 2), 2);
    }

    private static void pushedOrNot() {
        Edge.says("Promise 12 (roll), row 3", "PUSHED: SLOPE, if above 0, else 0.");
        TidedGround g = Check.of("g4 1 50 0;c1 0 51 0;c2 0 51 0;c3 0 0 0;");
        Edge.due("up 1", g.roll(2), 1);
        Edge.due("level", g.roll(2), 0);
        Edge.due("down 51", g.roll(2), 0);
        Edge.due("told(11)", g.told(11), 1);
        g.steep(51);
        Edge.due("up 51", g.roll(4), 51);
        Edge.due("told(11) behind it", g.told(11), 52);
        g.steep(0);
        Edge.due("level by no steepness", g.roll(4), 0);
        Edge.due("down by no steepness", g.roll(4), 0);
        Edge.due("staying", g.roll(0), 0);
        Edge.due("told(11) at the end", g.told(11), 52);
    }

    private static void atTheStepThatComes() {
        Edge.says("Promise 12 (roll), row 3", "at the step that comes");
        // 1 0 stands 10 above 0 0 at steps that leave 1 by 3, 30 above it else.
        TidedGround g = Check.of("g2 1 0 0;c1 0 30 5;m0 0 9,5,9;");
        g.pass(1);
        Edge.due("at 1, for 2", g.roll(2), Check.NOT);
        g.pass(1);
        Edge.due("at 2, for 3", g.roll(2), Check.NOT);
        g.pass(1);
        Edge.due("at 3, for 4", g.roll(2), 10);
    }

    private static void overACrack() {
        Edge.says("Promise 12 (roll), row 3",
            "the crack between (if one is there) must not be open (PULL at the crack's own CELL)");
        // All around 1 1: cracks that belong to 1 0, 1 1 and 0 1; open at odd steps there, shut at even ones.
        String[] cracks = {"k1 0 1 30;", "k1 1 0 30;", "k1 1 1 30;", "k0 1 0 30;"};
        for (int way = 1; way <= 4; way++) {
            for (int other = 1; other <= 4; other++) {
                TidedGround g = Check.of("g3 3 0 0;m0 0 9,10;" + cracks[other - 1]);
                g.roll(2);
                g.steep(1);
                Edge.waited(g, 7);
                Edge.due("to 1 1 at 8", g.roll(3), 0);
                Edge.due("way " + way + " at 9, crack on side " + other, g.roll(way), way == other ? Check.NOT : 0);
            }
            TidedGround g = Check.of("g3 3 0 0;m0 0 9,10;" + cracks[way - 1]);
            g.pass(1);
            g.roll(2);
            g.pass(1);
            g.roll(3);
            Edge.waited(g, 5);
            Edge.due("way " + way + " at 6, shut", g.roll(way), 0);
            Edge.due("back at 7, open", g.roll((way + 1) % 4 + 1), Check.NOT);
            g.pass(1);
            Edge.due("back at 8, shut", g.roll((way + 1) % 4 + 1), 0);
        }
        // A step's difference between both cells: the crack is the western, the northern cell's.
        TidedGround east = Check.of("g2 1 0 0;m1 0 9,10;k0 0 0 30;");
        Edge.due("east at 1 by the pull at 0 0", east.roll(2), Check.NOT);
        east.pass(1);
        Edge.due("east at 2 by the pull at 0 0", east.roll(2), 0);
        Edge.due("west at 3 by the pull at 0 0", east.roll(4), Check.NOT);
        TidedGround south = Check.of("g1 2 0 0;m0 1 9,10;k0 0 1 30;");
        Edge.due("south at 1 by the pull at 0 0", south.roll(3), Check.NOT);
        south.pass(1);
        Edge.due("south at 2 by the pull at 0 0", south.roll(3), 0);
        Edge.due("north at 3 by the pull at 0 0", south.roll(1), Check.NOT);
    }

    private static void stayingMayAlwaysBe() {
        Edge.says("Promise 12 (roll), row 3", "it stays (this may always be)");
        TidedGround g = Check.of("g2 2 0 0;c1 0 99 9;c0 1 99 9;k0 0 0 0;k0 0 1 0;m0 0 0,18;");
        g.steep(0);
        for (int i = 0; i < 4; i++) {
            Edge.due("east", g.roll(2), Check.NOT);
            Edge.due("south", g.roll(3), Check.NOT);
            Edge.due("staying", g.roll(0), 0);
        }
        Edge.due("told(8)", g.told(8), 4);
    }

    private static void fullAt900000() {
        Edge.says("Promise 12 (roll)", "FULL: THE STEP is 900000");
        TidedGround g = Edge.late("g2 1 0 0;c1 0 5 0;", 899999);
        Edge.due("roll(2) at 899999", g.roll(2), 5);
        Edge.due("told(8)", g.told(8), Edge.LAST_STEP);
        Edge.due("roll(0) at 900000", g.roll(0), Check.FULL);
        Edge.due("roll(4) at 900000", g.roll(4), Check.FULL);
        Edge.due("roll(2), which may not be, at 900000", g.roll(2), Check.NOT);
        Edge.due("roll(5) at 900000", g.roll(5), Check.OUTSIDE);
        Edge.due("told(8) behind all", g.told(8), Edge.LAST_STEP);
        Edge.due("told(10) behind all", g.told(10), 10);
        Edge.due("told(11) behind all", g.told(11), 5);
        TidedGround none = new TidedGround();
        Edge.due("no cells at 900000", Edge.waited(none, Edge.LAST_STEP).roll(0), Check.NOT);
        // Whether it may is asked of step 900001, which leaves 1 by 2.
        TidedGround crack = Edge.late("g2 1 0 0;m0 0 9,10;k0 0 0 30;", Edge.LAST_STEP);
        Edge.due("over a crack that opens at 900001", crack.roll(2), Check.NOT);
    }

    private static void steepBounds() {
        Edge.says("Promise 13 (steep)", "STEEP becomes v (0 .. 99): what it was. OUTSIDE.");
        TidedGround g = new TidedGround();
        Edge.due("steep(99)", g.steep(99), 20);
        Edge.due("steep(0)", g.steep(0), 99);
        Edge.outsideOf("steep", 0, 99, g, v -> o -> o.steep(v));
        Edge.due("told(12)", g.told(12), 0);
        Edge.due("steep(98)", g.steep(98), 0);
        Edge.due("told(12) of 98", g.told(12), 98);
    }

    private static void loadBounds() {
        Edge.says("Promise 14 (load)", "LOAD of a CELL becomes v (0 .. 90): what it was. UNKNOWN, OUTSIDE.");
        TidedGround g = Check.of("g6 4 0 9;");
        Edge.due("load of 5 3 90", g.load(5, 3, 90), 0);
        Edge.due("load of 5 3 0", g.load(5, 3, 0), 90);
        Edge.due("load of 0 0 1", g.load(0, 0, 1), 0);
        Edge.outsideOf("load", 0, 90, g, v -> o -> o.load(0, 0, v));
        Edge.due("load of 0 0 as it was", g.cell(0, 0, 2), 1);
        int[][] off = {{-1, 0}, {0, -1}, {6, 0}, {0, 4}, {6, 4}, {Edge.LEAST, 0}, {0, Edge.GREATEST}};
        for (int[] at : off) {
            Edge.due("load of " + at[0] + " " + at[1], g.load(at[0], at[1], 0), Check.UNKNOWN);
            Edge.due("load 91 of " + at[0] + " " + at[1], g.load(at[0], at[1], 91), Check.UNKNOWN);
        }
        Edge.due("load without cells", new TidedGround().load(0, 0, 0), Check.UNKNOWN);
    }

    private static void propBounds() {
        Edge.says("Promise 15 (prop)", "PROPS of a HOUSE become v (0 .. 999): what they were. UNKNOWN, OUTSIDE.");
        TidedGround g = Check.of(Edge.FULLEST);
        Edge.due("prop(5, 999)", g.prop(5, 999), 0);
        Edge.due("prop(5, 0)", g.prop(5, 0), 999);
        Edge.due("prop(0, 1)", g.prop(0, 1), 0);
        Edge.outsideOf("prop", 0, 999, g, v -> o -> o.prop(0, v));
        Edge.due("props of 0 as they were", g.house(0, 2), 1);
        for (int off : new int[] {-1, 6, Edge.LEAST, Edge.GREATEST}) {
            Edge.due("prop of " + off, g.prop(off, 0), Check.UNKNOWN);
            Edge.due("prop 1000 of " + off, g.prop(off, 1000), Check.UNKNOWN);
        }
        Edge.due("prop of 1 of one", Check.of("g1 1 0 0;h0 0 1;").prop(1, 0), Check.UNKNOWN);
        Edge.due("prop of 0 of none", Check.of("g1 1 0 0;").prop(0, 0), Check.UNKNOWN);
    }

    private static void shiftBounds() {
        Edge.says("Promise 16 (shift)",
            "The SHIFT of a MOON becomes v, left over by N (0 .. 999): what it was. UNKNOWN, OUTSIDE.");
        for (int n = 2; n <= 9; n++) {
            TidedGround g = Check.of("g1 1 0 1;m0 0 9" + ",9".repeat(n - 1) + ";");
            int was = 0;
            for (int v : new int[] {n - 1, n, n + 1, 2 * n - 1, 2 * n, 998, 999, 0}) {
                Edge.due("shift " + v + " of " + n, g.shift(0, v), was);
                was = v % n;
                Edge.due("moon(0, 3) behind shift " + v + " of " + n, g.moon(0, 3), was);
            }
            g.shift(0, 1);
            Edge.outsideOf("shift", 0, 999, g, v -> o -> o.shift(0, v));
            Edge.due("the shift as it was", g.moon(0, 3), 1);
            for (int off : new int[] {-1, 1, Edge.LEAST, Edge.GREATEST}) {
                Edge.due("shift of moon " + off, g.shift(off, 0), Check.UNKNOWN);
                Edge.due("shift 1000 of moon " + off, g.shift(off, 1000), Check.UNKNOWN);
            }
        }
        Edge.due("shift of moon 2 of three", Check.of("g1 1 0 1;m0 0 9,9;m0 0 9,9;m0 0 9,9;").shift(2, 1), 0);
        Edge.due("shift without moons", Check.of("g1 1 0 1;").shift(0, 0), Check.UNKNOWN);
    }

    private static void stepsOfDrift() {
        Edge.says("Promise 17 (drift)", "n steps (1 .. 99) BY DRAWS: where the cart is (a PAIR). OUTSIDE");
        TidedGround g = Check.of("g1 1 0 0;");
        Edge.due("drift(1)", g.drift(1), 0);
        Edge.due("told(8) behind 1", g.told(8), 1);
        Edge.due("drift(99)", g.drift(99), 0);
        Edge.due("told(8) behind 99", g.told(8), 100);
        g.seed(5);
        Edge.outsideOf("drift", 1, 99, g, v -> o -> o.drift(v));
        Edge.due("nothing was drawn", g.seed(5), 5);
        Edge.due("no step was taken", g.told(8), 100);
    }

    private static void fullAbove899000() {
        Edge.says("Promise 17 (drift)", "FULL: THE STEP is above 899000");
        TidedGround g = Edge.late("g1 1 0 0;", 899000);
        Edge.due("drift(99) at 899000", g.drift(99), 0);
        Edge.due("told(8)", g.told(8), 899099);
        Edge.due("drift(1) at 899099", g.drift(1), Check.FULL);
        TidedGround above = Edge.late("g1 1 0 0;", 899001);
        above.seed(5);
        Edge.due("drift(1) at 899001", above.drift(1), Check.FULL);
        Edge.due("nothing was drawn", above.seed(5), 5);
        Edge.due("drift(0) at 899001", above.drift(0), Check.OUTSIDE);
        Edge.due("drift(100) at 899001", above.drift(100), Check.OUTSIDE);
        Edge.due("told(8) as it was", above.told(8), 899001);
        Edge.due("drift(1) at 900000", Edge.waited(above, Edge.LAST_STEP).drift(1), Check.FULL);
    }

    private static void driftWithoutCells() {
        Edge.says("Promise 17 (drift)", "NOT: no CELLS");
        TidedGround g = new TidedGround();
        g.seed(5);
        Edge.due("drift(1)", g.drift(1), Check.NOT);
        Edge.due("drift(99)", g.drift(99), Check.NOT);
        Edge.due("drift(0)", g.drift(0), Check.OUTSIDE);
        Edge.due("drift(100)", g.drift(100), Check.OUTSIDE);
        Edge.due("told(8)", g.told(8), 0);
        Edge.due("nothing was drawn", g.seed(5), 5);
        Edge.due("drift(1) above 899000", Edge.waited(g, 899001).drift(1), Check.NOT);
    }

    private static long next(long seed) {
        return (seed * 1103515245L + 12345L) % (1L << 31);
    }

    private static long drawn(long seed, int n) {
        return seed / 65536 % n;
    }

    private static void leftOverBy2ToThe31() {
        Edge.says("Promise 17 (drift), row 3",
            "each DRAW it becomes it times 1103515245 and 12345, left over by 2 to the 31; the DRAW of n is it / 65536, left over by n");
        for (int seed : new int[] {0, 1, 2, 65535, 65536, 1073741823, 1073741824, 2147418112, 2147483646, 2147483647}) {
            TidedGround g = Check.of("g1 1 0 0;");
            g.seed(seed);
            g.drift(1);
            long s = next(next(seed));
            if (drawn(s, 12) == 0) {
                s = next(next(s));
            }
            Edge.due("the seed behind a step from " + seed, g.seed(0), s);
        }
    }

    /** The least seed from which the first draws are these, the places of none being -1; draws are of 5, 12, cells, 30. */
    private static int seedFor(int way, int twelve, int cells, int cell, int more) {
        for (int seed = 0; seed < 5000000; seed++) {
            long a = next(seed);
            long b = next(a);
            long c = next(b);
            long d = next(c);
            if ((way < 0 || drawn(a, 5) == way) && drawn(b, 12) == twelve && (cell < 0 || drawn(c, cells) == cell)
                && (more < 0 || drawn(d, 30) == more)) {
                return seed;
            }
        }
        Edge.due("a seed for " + way + " " + twelve + " " + cell + " " + more, 0, 1);
        return 0;
    }

    private static void eachWayDrawn() {
        Edge.says("Promise 17 (drift), row 3", "a DRAW of 5: the cart goes so, if it may");
        int[] pairs = {11, 10, 21, 12, 1};
        for (int way = 0; way <= 4; way++) {
            TidedGround g = Check.of("g3 3 50 0;c1 0 51 0;c2 1 52 0;c1 2 53 0;c0 1 54 0;");
            g.roll(2);
            g.roll(3);
            g.seed(seedFor(way, 1, 9, -1, -1));
            Edge.due("drift(1) by a draw of " + way, g.drift(1), pairs[way]);
            Edge.due("told(11) by a draw of " + way, g.told(11), 1 + way);
            Edge.due("told(8) by a draw of " + way, g.told(8), 3);
        }
    }

    private static void elseItStays() {
        Edge.says("Promise 17 (drift), row 3", "else it stays");
        for (int way = 0; way <= 4; way++) {
            TidedGround one = Check.of("g1 1 50 0;");
            one.seed(seedFor(way, 1, 1, -1, -1));
            Edge.due("one cell, a draw of " + way, one.drift(1), 0);
            Edge.due("one cell, told(8)", one.told(8), 1);
            // Too steep on all sides of 1 1, but for staying.
            TidedGround pit = Check.of("g3 3 50 0;c1 1 29 0;c1 0 49 0;");
            pit.roll(2);
            pit.roll(3);
            pit.seed(seedFor(way, 1, 9, -1, -1));
            Edge.due("in a pit, a draw of " + way, pit.drift(1), way == 1 ? 10 : 11);
            Edge.due("in a pit, told(8)", pit.told(8), 3);
            Edge.due("in a pit, told(11)", pit.told(11), way == 1 ? 20 : 0);
        }
        // The step that comes: a crack that opens at odd steps.
        int east = seedFor(2, 1, 2, -1, -1);
        TidedGround crack = Check.of("g2 1 0 0;m0 0 9,10;k0 0 0 30;");
        crack.seed(east);
        Edge.due("east at 1, open", crack.drift(1), 0);
        crack.seed(east);
        Edge.due("east at 2, shut", crack.drift(1), 10);
    }

    private static void loadsDrawn() {
        Edge.says("Promise 17 (drift), row 3", "a DRAW of 12: on 0 a DRAW of CELLS has a DRAW of 30 more LOAD");
        for (int twelve : new int[] {0, 1, 11}) {
            for (int more : new int[] {0, 1, 29}) {
                int seed = seedFor(-1, twelve, 1, 0, more);
                TidedGround g = Check.of("g1 1 0 0;");
                g.load(0, 0, 3);
                g.seed(seed);
                g.drift(1);
                Edge.due("load by draws of " + twelve + ", " + more, g.cell(0, 0, 2), twelve == 0 ? 3 + more : 3);
                long two = next(next(seed));
                Edge.due("the seed by " + twelve, g.seed(0), twelve == 0 ? next(next(two)) : two);
            }
        }
    }

    private static void ninetyAtMost() {
        Edge.says("Promise 17 (drift), row 3", "(90 at most)");
        int seed = seedFor(-1, 0, 1, 0, 29);
        for (int load : new int[] {60, 61, 62, 89, 90}) {
            TidedGround g = Check.of("g1 1 0 9;");
            g.load(0, 0, load);
            g.seed(seed);
            g.drift(1);
            Edge.due("29 more than " + load, g.cell(0, 0, 2), load == 60 ? 89 : 90);
            Edge.due("stiff then", g.cell(0, 0, 3), load == 60 ? 1 : 0);
        }
    }

    private static void loadsByAllCells() {
        Edge.says("Promise 17 (drift), row 3", "a DRAW of CELLS");
        for (int cell : new int[] {0, 1, 5, 6, 18, 23}) {
            TidedGround g = Check.of("g6 4 0 0;");
            g.seed(seedFor(-1, 0, 24, cell, 7));
            g.drift(1);
            for (int c = 0; c < 24; c++) {
                Edge.due("load of cell " + c + " by a draw of " + cell, g.cell(c % 6, c / 6, 2), c == cell ? 7 : 0);
            }
        }
    }
}
