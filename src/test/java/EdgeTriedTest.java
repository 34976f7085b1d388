/** The edges that the document names, promises 25 to 29: soonest, least, water, whose, stays. */
public final class EdgeTriedTest {
    private static final int LAST = Edge.LAST_STEP;
    /** The crack between its two cells is shut at steps that leave 503 by 504, and open at all others. */
    private static final String RARELY_SHUT = "g2 1 0 0;" + Edge.RARE_MOONS + "k0 0 0 27;";

    public static void main(String[] args) {
        pairsOfSoonest();
        stepsOfSoonest();
        fewestOfSixty();
        soonestByTheCartsRules();
        neitherMoves();
        pairsOfLeast();
        boundsOfLeast();
        leastInForty();
        comingThereWithin();
        itEndsAsSoonAsItIsThere();
        stepsOfLeast();
        firstOfLikeOnes();
        noneForBoth();
        boundsOfWater();
        noWells();
        lowestTerms();
        wetWells();
        fiveWells();
        deedsThatThereAreNot();
        stepsOfWhose();
        withinADeed();
        setsOfDeeds();
        staysAtEachStep();
        Check.end();
    }

    private static final int[] OFF_6_4 = {-1, -10, 4, 5, 9, 14, 54, 59, 60, 63, 99, 100, 530, Edge.LEAST, Edge.GREATEST};

    private static void pairsOfSoonest() {
        Edge.says("Promise 25 (soonest)", "SOONEST (from, to: PAIRS; t 0 .. 900000); NONE. UNKNOWN, OUTSIDE.");
        TidedGround g = Check.of("g6 4 0 0;");
        Edge.due("from 0 to 53", g.soonest(0, 53, 0), 8);
        Edge.due("from 53 to 0", g.soonest(53, 0, 0), 8);
        Edge.due("from 3 to 50", g.soonest(3, 50, 0), 8);
        for (int off : OFF_6_4) {
            Edge.due("from " + off, g.soonest(off, 0, 0), Check.UNKNOWN);
            Edge.due("to " + off, g.soonest(0, off, 0), Check.UNKNOWN);
            Edge.due("to " + off + " at no step", g.soonest(0, off, -1), Check.UNKNOWN);
        }
        TidedGround high = Check.of("g4 6 0 0;");
        Edge.due("from 0 to 35", high.soonest(0, 35, 0), 8);
        for (int off : new int[] {6, 36, 40, 53}) {
            Edge.due("to " + off, high.soonest(0, off, 0), Check.UNKNOWN);
        }
        Edge.due("without cells", new TidedGround().soonest(0, 0, 0), Check.UNKNOWN);
    }

    private static void stepsOfSoonest() {
        Edge.says("Promise 25 (soonest)", "t 0 .. 900000");
        TidedGround g = Check.of("g2 1 0 0;m0 0 9,10;k0 0 0 30;");
        Edge.due("t 0, shut at 2", g.soonest(0, 10, 0), 2);
        Edge.due("t 1", g.soonest(0, 10, 1), 1);
        Edge.due("t 900000, shut at 900002", g.soonest(0, 10, LAST), 2);
        Edge.due("t 899999", g.soonest(0, 10, LAST - 1), 1);
        Edge.outsideOf("soonest", 0, LAST, g, v -> o -> o.soonest(0, 10, v));
    }

    private static void fewestOfSixty() {
        Edge.says("Promise 25 (soonest), row 3", "the fewest steps (0 .. 60)");
        TidedGround g = Check.of(RARELY_SHUT);
        Edge.due("to itself", g.soonest(0, 0, 0), 0);
        Edge.due("to itself, the other", g.soonest(10, 10, LAST), 0);
        Edge.due("1", g.soonest(0, 10, 502), 1);
        Edge.due("2", g.soonest(0, 10, 501), 2);
        Edge.due("59", g.soonest(0, 10, 444), 59);
        Edge.due("60", g.soonest(0, 10, 443), 60);
        Edge.due("60, back", g.soonest(10, 0, 443), 60);
        Edge.due("61", g.soonest(0, 10, 442), Check.NONE);
        Edge.due("61, back", g.soonest(10, 0, 442), Check.NONE);
        Edge.due("from 503, where it shuts again after 504", g.soonest(0, 10, 503), Check.NONE);
        // The last step at which it is shut: 899639 leaves 503; then 900143.
        Edge.due("from 900000", g.soonest(0, 10, LAST), Check.NONE);
        g.shift(0, 6);
        g.shift(1, 7);
        g.shift(2, 8);
        // By these shifts each row is at its last number at step 0: the crack is shut at steps that leave 0 by 504.
        Edge.due("by other shifts", g.soonest(0, 10, 450), 54);
    }

    private static void soonestByTheCartsRules() {
        Edge.says("Promise 25 (soonest), row 3", "SLOPE must not be above STEEP");
        TidedGround g = Check.of("g3 1 0 0;c1 0 20 0;c2 0 41 0;");
        Edge.due("up 20", g.soonest(0, 10, 0), 1);
        Edge.due("up 21", g.soonest(10, 20, 0), Check.NONE);
        Edge.due("down 41", g.soonest(20, 0, 0), 2);
        g.steep(21);
        Edge.due("up 21 by 21", g.soonest(0, 20, 0), 2);
        g.steep(19);
        Edge.due("up 20 by 19", g.soonest(0, 10, 0), Check.NONE);
        Edge.due("waiting in vain at one cell", Check.of("g2 1 0 0;c1 0 99 0;").soonest(0, 10, 0), Check.NONE);
    }

    private static void neitherMoves() {
        Edge.says("Promises 25, 26 (soonest, least)",
            "Ahead of the calls `soonest`, `least` the interface says: ---- the cart, tried.");
        TidedGround g = Edge.busy();
        TidedGround twin = Edge.busy();
        g.soonest(0, 21, 5);
        g.least(0, 21, 5, 40, 2);
        g.least(20, 1, 5, 7, -1);
        Edge.due("all is as it was", Edge.trace(g).equals(Edge.trace(twin)) ? 1 : 0, 1);
    }

    private static void pairsOfLeast() {
        Edge.says("Promise 26 (least)",
            "LEAST: i = NONE what is PUSHED, else the STEP i of it (NONE: not so many); NONE. UNKNOWN, OUTSIDE.");
        TidedGround g = Check.of("g6 4 0 0;c5 3 7 0;");
        Edge.due("from 0 to 53", g.least(0, 53, 0, 8, Check.NONE), 7);
        Edge.due("from 53 to 0", g.least(53, 0, 0, 8, Check.NONE), 0);
        for (int off : OFF_6_4) {
            Edge.due("from " + off, g.least(off, 0, 0, 1, Check.NONE), Check.UNKNOWN);
            Edge.due("to " + off, g.least(0, off, 0, 1, Check.NONE), Check.UNKNOWN);
            Edge.due("to " + off + ", all else off", g.least(0, off, -1, 0, 0), Check.UNKNOWN);
        }
        Edge.due("without cells", new TidedGround().least(0, 0, 0, 1, Check.NONE), Check.UNKNOWN);
    }

    private static void boundsOfLeast() {
        Edge.says("Promise 26 (least), row 3", "LEAST in n steps (1 .. 40)");
        TidedGround g = Check.of("g2 1 0 0;c1 0 7 0;");
        Edge.due("n 1", g.least(0, 10, 0, 1, Check.NONE), 7);
        Edge.due("n 40", g.least(0, 10, 0, 40, Check.NONE), 7);
        Edge.outsideOf("least, n", 1, 40, g, v -> o -> o.least(0, 10, 0, v, Check.NONE));
        Edge.due("t 0", g.least(0, 10, 0, 1, 0), 2);
        Edge.due("t 900000", g.least(0, 10, LAST, 40, Check.NONE), 7);
        Edge.outsideOf("least, t", 0, LAST, g, v -> o -> o.least(0, 10, v, 1, Check.NONE));
        Edge.due("n 41 to itself", g.least(0, 0, 0, 41, Check.NONE), Check.OUTSIDE);
        Edge.due("n 0 to itself", g.least(0, 0, 0, 0, Check.NONE), Check.OUTSIDE);
    }

    private static void leastInForty() {
        Edge.says("Promise 26 (least), row 3", "least PUSHED, coming there within them");
        TidedGround g = Check.of(RARELY_SHUT);
        Edge.due("in 1", g.least(0, 10, 502, 1, Check.NONE), 0);
        Edge.due("in 2 of 1", g.least(0, 10, 501, 1, Check.NONE), Check.NONE);
        Edge.due("in 40", g.least(0, 10, 463, 40, Check.NONE), 0);
        Edge.due("in 41", g.least(0, 10, 462, 40, Check.NONE), Check.NONE);
        Edge.due("in 40 of 39", g.least(0, 10, 463, 39, Check.NONE), Check.NONE);
        Edge.due("the last step of 40", g.least(0, 10, 463, 40, 39), 2);
        Edge.due("the one before it", g.least(0, 10, 463, 40, 38), 0);
        Edge.due("step 40 of 40", g.least(0, 10, 463, 40, 40), Check.NONE);
        // Waiting pays: the hill is lowest once in nine steps.
        TidedGround hill = Check.of("g2 1 0 0;c1 0 18 2;m0 0 9,8,7,6,5,4,3,2,1;");
        int[] heights = {18, 16, 14, 12, 10, 8, 6, 4, 2};
        for (int n = 1; n <= 12; n++) {
            Edge.due("in " + n, hill.least(0, 10, 0, n, Check.NONE), heights[Math.min(n, 8)]);
        }
        Edge.due("from 900000, which leaves 0 by 9", hill.least(0, 10, LAST, 8, Check.NONE), 2);
        Edge.due("from 900000, too soon", hill.least(0, 10, LAST, 7, Check.NONE), 4);
    }

    private static void comingThereWithin() {
        Edge.says("Promise 26 (least), row 3", "coming there within them");
        TidedGround g = Check.of("g6 4 0 0;");
        Edge.due("8 steps in 8", g.least(0, 53, 0, 8, Check.NONE), 0);
        Edge.due("8 steps in 7", g.least(0, 53, 0, 7, Check.NONE), Check.NONE);
        Edge.due("8 steps in 7, step 0", g.least(0, 53, 0, 7, 0), Check.NONE);
    }

    private static void itEndsAsSoonAsItIsThere() {
        Edge.says("Promise 26 (least), row 3", "(it ends as soon as it is there)");
        TidedGround g = Check.of("g3 1 0 0;c1 0 7 0;");
        Edge.due("from where it is, nothing is pushed", g.least(10, 10, 0, 40, Check.NONE), 0);
        Edge.due("from where it is, no step", g.least(10, 10, 0, 40, 0), Check.NONE);
        Edge.due("up 7 in 2", g.least(0, 10, 0, 2, Check.NONE), 7);
        Edge.due("it waits first", g.least(0, 10, 0, 2, 0), 0);
        Edge.due("and goes then", g.least(0, 10, 0, 2, 1), 2);
        Edge.due("and has no more", g.least(0, 10, 0, 2, 2), Check.NONE);
        // The hill is 20 high, but 11 at steps that leave 2 by 3.
        TidedGround soon = Check.of("g2 1 0 0;c1 0 20 9;m0 0 9,9,8;");
        Edge.due("20 at 1, 11 at 2", soon.least(0, 10, 0, 2, Check.NONE), 11);
        Edge.due("11 at 2 within 5", soon.least(0, 10, 0, 5, Check.NONE), 11);
        int[] steps = {0, 0, 0, 0, 2};
        for (int i = 0; i < 5; i++) {
            Edge.due("of like ones the one that stays longer, step " + i, soon.least(0, 10, 0, 5, i), steps[i]);
        }
        Edge.due("no step 5", soon.least(0, 10, 0, 5, 5), Check.NONE);
        int[] four = {0, 2};
        for (int i = 0; i < 3; i++) {
            Edge.due("within 4, step " + i, soon.least(0, 10, 0, 4, i), i < 2 ? four[i] : Check.NONE);
        }
    }

    private static void stepsOfLeast() {
        Edge.says("Promise 26 (least)", "else the STEP i of it (NONE: not so many)");
        TidedGround g = Check.of("g6 4 0 0;");
        int[] way = {2, 2, 2, 2, 2, 3, 3, 3};
        for (int i = 0; i < 8; i++) {
            Edge.due("step " + i, g.least(0, 53, 0, 8, i), way[i]);
        }
        for (int i : new int[] {8, 9, 39, 40, 41, Edge.GREATEST, -2, Edge.LEAST}) {
            Edge.due("step " + i, g.least(0, 53, 0, 8, i), Check.NONE);
        }
    }

    private static void firstOfLikeOnes() {
        Edge.says("Promise 26 (least), row 3", "of like ones the first (STEP by STEP: staying, north, east, south, west)");
        TidedGround g = Check.of("g3 3 0 0;");
        int[][] ways = {{0, 22, 2, 2, 3, 3}, {2, 20, 1, 1, 2, 2}, {22, 0, 1, 1, 4, 4}, {20, 2, 3, 3, 4, 4}};
        for (int[] way : ways) {
            for (int i = 0; i < 4; i++) {
                Edge.due("from " + way[0] + " to " + way[1] + ", step " + i, g.least(way[0], way[1], 0, 4, i), way[2 + i]);
            }
        }
        int[] late = {0, 0, 2, 2, 3, 3};
        for (int i = 0; i < 6; i++) {
            Edge.due("with two to spare, step " + i, g.least(0, 22, 0, 6, i), late[i]);
        }
        // Less pushed comes before all: around the hill by the south, though east is sooner told.
        TidedGround hill = Check.of("g3 2 0 0;c1 0 1 0;");
        Edge.due("over the hill in 2", hill.least(0, 20, 0, 2, Check.NONE), 1);
        int[] around = {3, 2, 2, 1};
        for (int i = 0; i < 4; i++) {
            Edge.due("around the hill in 4, step " + i, hill.least(0, 20, 0, 4, i), around[i]);
        }
    }

    private static void noneForBoth() {
        Edge.says("Promises 25, 26 (soonest, least), row 3", "NONE for both.");
        TidedGround g = Check.of("g2 1 0 0;c1 0 21 0;");
        Edge.due("soonest", g.soonest(0, 10, 0), Check.NONE);
        Edge.due("least", g.least(0, 10, 0, 40, Check.NONE), Check.NONE);
        Edge.due("least, step 0", g.least(0, 10, 0, 40, 0), Check.NONE);
        Edge.due("least, step 39", g.least(0, 10, 0, 40, 39), Check.NONE);
    }

    private static void boundsOfWater() {
        Edge.says("Promise 27 (water), row 3", "WATER (0 .. 9999 told)");
        TidedGround g = Check.of("g1 1 50 1;m0 0 9,10;w0 0 20;");
        Edge.due("0", g.water(0, 0, 0), 30);
        Edge.due("9999", g.water(9999, 0, 0), 10029);
        Edge.outsideOf("water", 0, 9999, g, v -> o -> o.water(v, 0, 0));
        Edge.says("Promise 27 (water)", "what = 0 the LEVEL above, 1 below (1 or more), 2 WET. OUTSIDE");
        Edge.due("what 1", g.water(5, 0, 1), 1);
        Edge.due("what 2", g.water(5, 0, 2), 1);
        Edge.outsideOf("water, what", 0, 2, g, v -> o -> o.water(5, 0, v));
        Edge.due("at 0", g.water(5, 0, 0), 35);
        Edge.due("at 1", g.water(5, 1, 0), 36);
        Edge.due("at 900000", g.water(5, LAST, 0), 35);
        Edge.due("at 899999", g.water(5, LAST - 1, 0), 36);
        Edge.outsideOf("water, step", 0, LAST, g, v -> o -> o.water(5, v, 0));
    }

    private static void noWells() {
        Edge.says("Promise 27 (water)", "NOT: no WELLS");
        for (TidedGround g : new TidedGround[] {Check.of("g1 1 50 1;"), new TidedGround()}) {
            Edge.due("water(0, 0, 0)", g.water(0, 0, 0), Check.NOT);
            Edge.due("water(9999, 900000, 2)", g.water(9999, LAST, 2), Check.NOT);
            Edge.outsideOf("water", 0, 9999, g, v -> o -> o.water(v, 0, 0));
            Edge.outsideOf("water, step", 0, LAST, g, v -> o -> o.water(0, v, 0));
            Edge.outsideOf("water, what", 0, 2, g, v -> o -> o.water(0, 0, v));
        }
    }

    private static void lowestTerms() {
        Edge.says("Promise 27 (water), row 3", "as a fraction in lowest terms");
        // Floors of 0 in all wells: the level is water by wells.
        for (int wells = 1; wells <= 5; wells++) {
            StringBuilder text = new StringBuilder("g5 1 9 0;");
            for (int i = 0; i < wells; i++) {
                text.append("w").append(i).append(" 0 9;");
            }
            TidedGround g = Check.of(text.toString());
            for (int v = 0; v <= 21; v++) {
                int shared = wells;
                while (v % shared != 0 || wells % shared != 0) {
                    shared--;
                }
                Edge.due(v + " in " + wells + ", above", g.water(v, 0, 0), v / shared);
                Edge.due(v + " in " + wells + ", below", g.water(v, 0, 1), wells / shared);
                Edge.due(v + " in " + wells + ", wet", g.water(v, 0, 2), v == 0 ? 0 : (1 << wells) - 1);
            }
        }
        Edge.says("Promise 27 (water)", "1 below (1 or more)");
        // Floors of -99 and -98: a level below 0 has its sign above.
        TidedGround low = Check.of("g2 1 0 0;w0 0 99;w1 0 98;");
        int[][] want = {{0, -99, 1, 0}, {1, -98, 1, 1}, {2, -195, 2, 3}, {3, -97, 1, 3},
            {195, -1, 1, 3}, {196, -1, 2, 3}, {197, 0, 1, 3}, {198, 1, 2, 3}};
        for (int[] w : want) {
            for (int what = 0; what <= 2; what++) {
                Edge.due("water(" + w[0] + ", 0, " + what + ")", low.water(w[0], 0, what), w[1 + what]);
            }
        }
    }

    private static void wetWells() {
        Edge.says("Promise 27 (water), row 3", "WET: WELLS that have water (a SET)");
        // Floors 30, 10, 20, told in this order.
        TidedGround g = Check.of("g3 1 50 0;w0 0 20;w1 0 40;w2 0 30;");
        int[][] want = {{0, 10, 1, 0}, {1, 11, 1, 2}, {9, 19, 1, 2}, {10, 20, 1, 2}, {11, 41, 2, 6}, {29, 59, 2, 6},
            {30, 30, 1, 6}, {31, 91, 3, 7}, {33, 31, 1, 7}, {9999, 3353, 1, 7}};
        for (int[] w : want) {
            for (int what = 0; what <= 2; what++) {
                Edge.due("water(" + w[0] + ", 0, " + what + ")", g.water(w[0], 0, what), w[1 + what]);
            }
        }
        Edge.says("Promise 27 (water), row 3", "FLOOR of a WELL is HEIGHT of its CELL less D");
        // Floors by height: 9 and 0 at step 0, 0 and 0 at step 1; under a load 8 and 0.
        TidedGround soft = Check.of("g2 1 0 0;c0 0 0 9;m0 0 10,9;w0 0 0;w1 0 0;");
        Edge.due("9 at 0", soft.water(9, 0, 0), 9);
        Edge.due("9 at 0, wet", soft.water(9, 0, 2), 2);
        Edge.due("9 at 1", soft.water(9, 1, 0), 9);
        Edge.due("9 at 1, below", soft.water(9, 1, 1), 2);
        soft.load(0, 0, 10);
        Edge.due("9 at 0 under a load", soft.water(9, 0, 0), 17);
        Edge.due("9 at 0 under a load, wet", soft.water(9, 0, 2), 3);
    }

    private static void fiveWells() {
        Edge.says("Promise 27 (water), row 1", "5 WELLS at most, all joined");
        TidedGround g = Check.of("g5 1 99 9;" + "m1 0 18,0,18,0,18;".repeat(3) + "w0 0 0;w1 0 99;w2 0 0;w3 0 99;w4 0 0;");
        // Floors at step 0: 342, -243, 342, -243, 342: apart as far as can be.
        Edge.due("0", g.water(0, 0, 0), -243);
        Edge.due("0, wet", g.water(0, 0, 2), 0);
        Edge.due("1, above", g.water(1, 0, 0), -485);
        Edge.due("1, below", g.water(1, 0, 1), 2);
        Edge.due("1, wet", g.water(1, 0, 2), 10);
        Edge.due("1170, just full", g.water(1170, 0, 0), 342);
        Edge.due("1170, wet", g.water(1170, 0, 2), 10);
        Edge.due("1171, above", g.water(1171, 0, 0), 1711);
        Edge.due("1171, below", g.water(1171, 0, 1), 5);
        Edge.due("1171, wet", g.water(1171, 0, 2), 31);
        Edge.due("9999, above", g.water(9999, 0, 0), 9999 + 3 * 342 - 2 * 243);
        Edge.due("9999, below", g.water(9999, 0, 1), 5);
    }

    private static void deedsThatThereAreNot() {
        Edge.says("Promises 28, 29 (whose, stays)", "WHOSE, of a DEED. UNKNOWN, OUTSIDE (0 .. 900000).");
        TidedGround g = Check.of("g1 1 5 0;d0 0;d0 0;d0 0;d105 105;");
        Edge.due("whose(0, 0)", g.whose(0, 0), 0);
        Edge.due("whose(3, 0)", g.whose(3, 0), 1);
        Edge.due("stays(3)", g.stays(3), 1);
        for (int off : new int[] {-1, 4, Edge.LEAST, Edge.GREATEST}) {
            Edge.due("whose of " + off, g.whose(off, 0), Check.UNKNOWN);
            Edge.due("whose of " + off + " at no step", g.whose(off, -1), Check.UNKNOWN);
            Edge.due("stays of " + off, g.stays(off), Check.UNKNOWN);
        }
        Edge.due("whose of 0 of none", Check.of("g1 1 5 0;").whose(0, 0), Check.UNKNOWN);
        Edge.due("stays of 0 of none", new TidedGround().stays(0), Check.UNKNOWN);
        Edge.due("whose of 1 of one", Check.of("g1 1 5 0;d0 1;").whose(1, 0), Check.UNKNOWN);
    }

    private static void stepsOfWhose() {
        Edge.says("Promise 28 (whose)", "OUTSIDE (0 .. 900000)");
        TidedGround g = Check.of("g1 1 5 1;m0 0 9,10;d105 105;");
        Edge.due("at 0", g.whose(0, 0), 1);
        Edge.due("at 1", g.whose(0, 1), 0);
        Edge.due("at 899999", g.whose(0, LAST - 1), 0);
        Edge.due("at 900000", g.whose(0, LAST), 1);
        Edge.outsideOf("whose", 0, LAST, g, v -> o -> o.whose(0, v));
    }

    private static void withinADeed() {
        Edge.says("Promise 28 (whose), row 3", "CELLS with a HEIGHT within a DEED's at a step (a SET)");
        for (int height : new int[] {0, 1, 50, 99}) {
            TidedGround g = Check.of("g1 1 " + height + " 0;d" + (100 + height) + " 300;d0 " + (100 + height) + ";d"
                + (101 + height) + " 300;d0 " + (99 + height) + ";");
            Edge.due(height + " from " + height, g.whose(0, 0), 1);
            Edge.due(height + " up to " + height, g.whose(1, 0), 1);
            Edge.due(height + " from " + (height + 1), g.whose(2, 0), 0);
            Edge.due(height + " up to " + (height - 1), g.whose(3, 0), 0);
        }
        // Heights of -100, -101, 200 and 201: a deed ends at -100 and 200.
        TidedGround ends = Check.of("g2 1 80 9;c1 0 2 6;m0 0 0,2;m0 0 0,0;m0 0 7,9;d0 300;d0 0;");
        Edge.due("80 and -20 times 9", ends.height(0, 0, 0), -100);
        Edge.due("2 and -20 times 6", ends.height(1, 0, 0), -118);
        Edge.due("-100 within all heights", ends.whose(0, 0), 1);
        Edge.due("-100 alone", ends.whose(1, 0), 1);
        TidedGround low = Check.of("g2 1 79 9;c1 0 20 6;m0 0 0,9;m0 0 0,9;m0 0 7,9;d0 300;");
        Edge.due("-101 below all deeds, and -100", low.whose(0, 0), 2);
        TidedGround high = Check.of("g2 1 20 9;c1 0 21 9;m0 0 18,9;m0 0 18,9;m0 0 11,9;d0 300;d300 300;");
        Edge.due("200, and 201 above all deeds", high.whose(0, 0), 1);
        Edge.due("200 alone", high.whose(1, 0), 1);
        Edge.due("by the step that is told", high.whose(1, 1), 0);
    }

    private static void setsOfDeeds() {
        Edge.says("Promise 28 (whose), Terms", "A SET is a whole number, bit k for k.");
        TidedGround g = Check.of("g6 4 5 0;c5 3 6 0;c0 1 7 0;d105 105;d106 106;d107 107;d105 107;");
        Edge.due("all but two", g.whose(0, 0), (1 << 24) - 1 - (1 << 23) - (1 << 6));
        Edge.due("5 3 is cell 23", g.whose(1, 0), 1 << 23);
        Edge.due("0 1 is cell 6", g.whose(2, 0), 1 << 6);
        Edge.due("all", g.whose(3, 0), (1 << 24) - 1);
        Edge.due("all that stays", g.stays(3), (1 << 24) - 1);
    }

    private static void staysAtEachStep() {
        Edge.says("Promise 29 (stays), row 3", "STAYS: those that are so at each step");
        TidedGround g = Check.of("g2 1 10 0;c1 0 10 1;" + Edge.RARE_MOONS + "d107 110;d108 110;d107 109;d110 110;");
        Edge.due("7 to 10", g.stays(0), 3);
        Edge.due("8 to 10, off at the last step of a period", g.stays(1), 1);
        Edge.due("7 to 9", g.stays(2), 0);
        Edge.due("10", g.stays(3), 1);
        g.load(1, 0, 10);
        Edge.due("10, all hard", g.stays(3), 3);
        TidedGround first = Check.of("g1 1 10 1;m0 0 10,9;d110 110;d111 111;");
        Edge.due("off at step 0 alone", first.stays(0), 0);
        Edge.due("at step 0 alone", first.stays(1), 0);
        first.pass(1);
        Edge.due("off at step 0 alone, at THE STEP 1", first.stays(0), 0);
        Edge.due("without moons", Check.of("g1 1 10 1;d110 110;").stays(0), 1);
    }
}
