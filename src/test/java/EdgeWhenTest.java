/** The edges that the document names, promises 18 to 24 and NEXT in row 3: level, aslant, turn, most, bell, breaks, props. */
public final class EdgeWhenTest {
    private static final int LAST = Edge.LAST_STEP;

    public static void main(String[] args) {
        setsOfLevel();
        boundsOfLevel();
        differByAtMost();
        fromTOn();
        neverLevel();
        stepsOfAslant();
        aslantAlone();
        aslantWithoutCells();
        likeHeightsBeside();
        aslantAtLast();
        stepsOfTurn();
        bothLessOrBothMore();
        turnAtLast();
        stepsOfMost();
        firstOfLikeMosts();
        mostWithinAPeriod();
        boundsOfBell();
        bellAboveItsLimit();
        ringsOfAPeriod();
        boundsOfBreaks();
        firstBreakLeastHouse();
        neverBreaks();
        sizesOfProps();
        eachHouseAsManyAsItNeeds();
        Check.end();
    }

    private static void setsOfLevel() {
        Edge.says("Promise 18 (level), Terms", "a CELL, MOON, HOUSE, DEED, IMAGE that there is not; bits of such");
        for (int cells = 1; cells <= 24; cells++) {
            if (cells > 6 && cells % 6 != 0) {
                continue;
            }
            int w = Math.min(6, cells);
            TidedGround g = Check.of("g" + w + " " + cells / w + " 5 0;");
            int all = (1 << cells) - 1;
            Edge.due("all of " + cells, g.level(all, 0, 0), 0);
            Edge.due("the last of " + cells, g.level(1 << cells - 1, 0, 0), 0);
            Edge.due("one past " + cells, g.level(1 << cells, 0, 0), Check.UNKNOWN);
            Edge.due("all and one past " + cells, g.level(all | 1 << cells, 0, 0), Check.UNKNOWN);
            Edge.due("one far past " + cells, g.level(1 | 1 << 30, 0, 0), Check.UNKNOWN);
            Edge.due("bit 31 by " + cells, g.level(1 | 1 << 31, 0, 0), Check.UNKNOWN);
            Edge.due("bit 31 alone by " + cells, g.level(1 << 31, 0, 0), Check.UNKNOWN);
            Edge.due("all bits by " + cells, g.level(-1, 0, 0), Check.UNKNOWN);
            Edge.due("one past " + cells + ", no e", g.level(1 << cells, 100, 0), Check.UNKNOWN);
            Edge.due("one past " + cells + ", no step", g.level(1 << cells, 0, -1), Check.UNKNOWN);
        }
        Edge.says("Promise 18 (level)", "a SET that is not empty");
        TidedGround g = Check.of("g2 1 5 0;");
        Edge.due("level(0, 0, 0)", g.level(0, 0, 0), Check.OUTSIDE);
        Edge.due("level(0, 99, 900000)", g.level(0, 99, LAST), Check.OUTSIDE);
        Edge.due("without cells, bit 0", new TidedGround().level(1, 0, 0), Check.UNKNOWN);
    }

    private static void boundsOfLevel() {
        Edge.says("Promise 18 (level)", "LEVEL (e 0 .. 99");
        TidedGround g = Check.of("g2 1 0 0;c1 0 99 0;");
        Edge.due("e 99 by 99", g.level(3, 99, 0), 0);
        Edge.due("e 0 by one", g.level(1, 0, 0), 0);
        Edge.outsideOf("level, e", 0, 99, g, v -> o -> o.level(3, v, 0));
        Edge.says("Promise 18 (level)", "how many steps from t (0 .. 900000) on; NONE. UNKNOWN, OUTSIDE.");
        Edge.due("t 0", g.level(3, 99, 0), 0);
        Edge.due("t 900000", g.level(3, 99, LAST), 0);
        Edge.outsideOf("level, t", 0, LAST, g, v -> o -> o.level(3, 99, v));
    }

    private static void differByAtMost() {
        Edge.says("Promise 18 (level), row 3",
            "CELLS of a SET (bit for CELL number Y times W and X) have HEIGHTS that differ by e at most");
        for (int e : new int[] {0, 1, 50, 98}) {
            TidedGround g = Check.of("g3 1 0 0;c1 0 " + e + " 0;c2 0 " + (e + 1) + " 0;");
            Edge.due(e + " by " + e, g.level(3, e, 0), 0);
            Edge.due(e + 1 + " by " + e, g.level(5, e, 0), Check.NONE);
            Edge.due("all, " + (e + 1) + " by " + e, g.level(7, e, 0), Check.NONE);
            Edge.due("one alone", g.level(4, 0, 0), 0);
        }
        TidedGround below = Check.of("g2 1 0 1;c1 0 9 0;m0 0 0,9;");
        Edge.due("-9 and 9 by 17", below.level(3, 17, 0), 1);
        Edge.due("-9 and 9 by 18", below.level(3, 18, 0), 0);
        TidedGround numbers = Check.of("g3 2 0 0;c0 1 9 0;");
        Edge.due("0 1 is cell 3", numbers.level(1 | 8, 8, 0), Check.NONE);
        Edge.due("all but cell 3", numbers.level(63 - 8, 0, 0), 0);
    }

    /** The two cells are level but at steps that leave 503 by 504. */
    private static String rarelyAtLevel() {
        return "g2 1 5 0;c1 0 8 1;" + Edge.RARE_MOONS;
    }

    private static void fromTOn() {
        Edge.says("Promise 18 (level), row 3", "NEXT from step t on (0: at t)");
        TidedGround g = Check.of(rarelyAtLevel());
        Edge.due("from 0, the last step of a period", g.level(3, 0, 0), 503);
        Edge.due("at 503", g.level(3, 0, 503), 0);
        Edge.due("from 504", g.level(3, 0, 504), 503);
        Edge.due("from 502", g.level(3, 0, 502), 1);
        Edge.due("from 1", g.level(3, 0, 1), 502);
        Edge.due("from 900000", g.level(3, 0, LAST), 503 - LAST % 504);
        Edge.due("from 899999", g.level(3, 0, LAST - 1), 503 - (LAST - 1) % 504);
        g.pass(9);
        Edge.due("THE STEP is not looked at", g.level(3, 0, 0), 503);
        g.shift(0, 6);
        // 287 leaves 0 by 7, 7 by 8, 8 by 9.
        Edge.due("SHIFTS are", g.level(3, 0, 0), 287);
    }

    private static void neverLevel() {
        Edge.says("Promise 18 (level), row 3", "NONE: never");
        TidedGround g = Check.of("g2 1 5 0;c1 0 9 1;" + Edge.RARE_MOONS);
        Edge.due("1 apart at the best, by 0", g.level(3, 0, 0), Check.NONE);
        Edge.due("1 apart at the best, by 1", g.level(3, 1, 0), 503);
        Edge.due("never, from 900000", g.level(3, 0, LAST), Check.NONE);
    }

    private static void stepsOfAslant() {
        Edge.says("Promise 19 (aslant)", "ASLANT: how many steps from t on; NONE. OUTSIDE");
        TidedGround g = Check.of("g2 1 5 0;c1 0 5 1;m0 0 9,10;");
        Edge.due("t 0", g.aslant(0), 1);
        Edge.due("t 1", g.aslant(1), 0);
        Edge.due("t 900000", g.aslant(LAST), 1);
        Edge.outsideOf("aslant", 0, LAST, g, v -> o -> o.aslant(v));
        Edge.outsideOf("aslant of one cell", 0, LAST, Check.of("g1 1 5 0;"), v -> o -> o.aslant(v));
    }

    private static void aslantAlone() {
        Edge.says("Promise 19 (aslant), row 3", "(one CELL alone: never)");
        TidedGround g = Check.of("g1 1 5 9;m0 0 9,10;");
        Edge.due("t 0", g.aslant(0), Check.NONE);
        Edge.due("t 900000", g.aslant(LAST), Check.NONE);
        Edge.due("two cells", Check.of("g1 2 5 0;c0 0 6 0;").aslant(0), 0);
    }

    private static void aslantWithoutCells() {
        Edge.says("Promise 19 (aslant)", "NOT: no CELLS");
        TidedGround g = new TidedGround();
        Edge.due("t 0", g.aslant(0), Check.NOT);
        Edge.due("t 900000", g.aslant(LAST), Check.NOT);
        Edge.outsideOf("aslant", 0, LAST, g, v -> o -> o.aslant(v));
    }

    private static void likeHeightsBeside() {
        Edge.says("Promise 19 (aslant), row 3", "no CELL has one beside it of like HEIGHT");
        // A board of 50 and 51 by turns is aslant; each cell that is changed to the other spoils it.
        StringBuilder board = new StringBuilder("g4 3 50 0;");
        for (int i = 0; i < 12; i++) {
            if ((i % 4 + i / 4) % 2 == 1) {
                board.append("c").append(i % 4).append(' ').append(i / 4).append(" 51 0;");
            }
        }
        Edge.due("a board of two heights", Check.of(board.toString()).aslant(0), 0);
        for (int i = 0; i < 12; i++) {
            int x = i % 4;
            int y = i / 4;
            String text = (x + y) % 2 == 1 ? board.toString().replace("c" + x + " " + y + " 51 0;", "")
                : board + "c" + x + " " + y + " 51 0;";
            Edge.due("a board with a like one at " + x + " " + y, Check.of(text).aslant(0), Check.NONE);
        }
        Edge.due("the end of a row and the next one's start are not beside",
            Check.of("g2 2 1 0;c1 0 2 0;c0 1 2 0;c1 1 3 0;").aslant(0), 0);
        Edge.due("corners are not beside", Check.of("g2 2 1 0;c1 0 2 0;c0 1 3 0;").aslant(0), 0);
    }

    private static void aslantAtLast() {
        Edge.says("Promise 19 (aslant), row 3", "NEXT from step t on (0: at t), NONE: never");
        TidedGround g = Check.of("g3 1 5 0;c1 0 7 1;c2 0 9 0;m0 0 11,11,11,11,11,11,11,11,10;m0 0 9,9,9,9,9,9,9,9;");
        // 1 0 stands at 9 as 2 0 does, but at steps that leave 8 by 9: 8 then.
        Edge.due("from 0", g.aslant(0), 8);
        Edge.due("at 8", g.aslant(8), 0);
        Edge.due("from 9", g.aslant(9), 8);
        Edge.due("from 900000", g.aslant(LAST), 8);
        Edge.due("never", Check.of("g2 1 5 0;c1 0 5 0;m0 0 9,10;").aslant(0), Check.NONE);
        TidedGround rare = Check.of("g3 1 50 0;c1 0 48 2;c2 0 48 3;m0 0 10,10,10,10,10,10,9;m0 0 9,9,9,9,9,9,9,9;");
        // At a pull of 1: 50, 50, 51; at 0: 50, 48, 48: like ones at each step.
        Edge.due("by turns like to the west and to the east", rare.aslant(0), Check.NONE);
    }

    private static void stepsOfTurn() {
        Edge.says("Promise 20 (turn)", "UNKNOWN, OUTSIDE (t 1 .. 900000).");
        TidedGround g = Check.of("g2 1 5 1;m0 0 9,10;");
        Edge.due("t 1", g.turn(0, 0, 1), 0);
        Edge.due("t 900000", g.turn(1, 0, LAST), 0);
        Edge.outsideOf("turn", 1, LAST, g, v -> o -> o.turn(0, 0, v));
        Edge.due("t 0", g.turn(0, 0, 0), Check.OUTSIDE);
        int[][] off = {{-1, 0}, {2, 0}, {0, -1}, {0, 1}};
        for (int[] at : off) {
            Edge.due("turn of " + at[0] + " " + at[1], g.turn(at[0], at[1], 1), Check.UNKNOWN);
            Edge.due("turn of " + at[0] + " " + at[1] + " at 0", g.turn(at[0], at[1], 0), Check.UNKNOWN);
        }
    }

    private static void bothLessOrBothMore() {
        Edge.says("Promise 20 (turn), row 3",
            "TURN of a CELL: HEIGHT a step ahead of it and a step behind it are both less, or both more.");
        // Parts of three steps, at the middle one of which a turn may be; the fourth step keeps the others from turning alike.
        int[][] rows = {{9, 10, 9}, {10, 9, 10}, {9, 10, 10}, {10, 10, 9}, {9, 10, 11}, {11, 10, 9}, {9, 11, 10}, {10, 11, 9}};
        boolean[] turns = {true, true, false, false, false, false, true, true};
        for (int i = 0; i < rows.length; i++) {
            int[] p = rows[i];
            TidedGround g = Check.of("g1 1 5 1;m0 0 " + p[0] + "," + p[1] + "," + p[2] + ";");
            Edge.due("turn at 1 of " + p[0] + " " + p[1] + " " + p[2], g.turn(0, 0, 1) == 0 ? 1 : 0, turns[i] ? 1 : 0);
        }
        TidedGround flat = Check.of("g1 1 5 1;m0 0 9,9,10,10;");
        Edge.due("a flat top, a flat bottom", flat.turn(0, 0, 1), Check.NONE);
        Edge.due("no softness", Check.of("g1 1 5 0;m0 0 9,10;").turn(0, 0, 1), Check.NONE);
        Edge.due("no moons", Check.of("g1 1 5 9;").turn(0, 0, LAST), Check.NONE);
        TidedGround loaded = Check.of("g1 1 5 2;m0 0 9,10;");
        loaded.load(0, 0, 19);
        Edge.due("under 19, still soft", loaded.turn(0, 0, 1), 0);
        loaded.load(0, 0, 20);
        Edge.due("under 20, hard", loaded.turn(0, 0, 1), Check.NONE);
    }

    private static void turnAtLast() {
        Edge.says("Promise 20 (turn), row 3", "NEXT from step t on (0: at t), NONE: never");
        // A long way up and one step down: a peak at 8, a valley at 9, of each nine steps.
        TidedGround g = Check.of("g1 1 50 1;m0 0 9,10,11,12,13,14,15,16,17;");
        Edge.due("from 1, the peak at 8", g.turn(0, 0, 1), 7);
        Edge.due("at the peak", g.turn(0, 0, 8), 0);
        Edge.due("at the valley", g.turn(0, 0, 9), 0);
        Edge.due("behind the valley", g.turn(0, 0, 10), 7);
        Edge.due("from 900000, which leaves 0 by 9", g.turn(0, 0, LAST), 0);
        Edge.due("from 899999, a peak", g.turn(0, 0, LAST - 1), 0);
        Edge.due("from 899992", g.turn(0, 0, LAST - 8), 7);
        g.shift(0, 1);
        Edge.due("from 900000 by a shift of 1", g.turn(0, 0, LAST), 7);
    }

    private static void stepsOfMost() {
        Edge.says("Promise 21 (most)", "MOST: what = 0 the step itself, 1 PULL then. UNKNOWN, OUTSIDE.");
        TidedGround g = Check.of("g2 1 5 0;m0 0 0,18;");
        Edge.due("what 0", g.most(0, 0, 0, 0), 1);
        Edge.due("what 1", g.most(0, 0, 0, 1), 9);
        Edge.due("t 900000", g.most(0, 0, LAST, 0), LAST + 1);
        Edge.due("t 900000, its pull", g.most(1, 0, LAST, 1), 9);
        Edge.outsideOf("most, what", 0, 1, g, v -> o -> o.most(0, 0, 0, v));
        Edge.outsideOf("most, t", 0, LAST, g, v -> o -> o.most(0, 0, v, 0));
        int[][] off = {{-1, 0}, {2, 0}, {0, -1}, {0, 1}};
        for (int[] at : off) {
            Edge.due("most of " + at[0] + " " + at[1], g.most(at[0], at[1], 0, 0), Check.UNKNOWN);
            Edge.due("most of " + at[0] + " " + at[1] + ", no step, no what", g.most(at[0], at[1], -1, 2), Check.UNKNOWN);
        }
    }

    private static void firstOfLikeMosts() {
        Edge.says("Promise 21 (most), row 3", "of like ones the first");
        TidedGround g = Check.of("g1 1 5 0;m0 0 9,12,12,9,12;");
        int[] want = {1, 1, 2, 4, 4};
        for (int t = 0; t < 5; t++) {
            Edge.due("most from " + t, g.most(0, 0, t, 0), want[t]);
            Edge.due("most from " + (t + 5), g.most(0, 0, t + 5, 0), want[t] + 5);
        }
        TidedGround like = Check.of("g1 1 5 0;m0 0 0,0,0;");
        Edge.due("all alike, and below 0", like.most(0, 0, 7, 0), 7);
        Edge.due("all alike, their pull", like.most(0, 0, 7, 1), -9);
        Edge.due("no moons", Check.of("g1 1 5 0;").most(0, 0, LAST, 0), LAST);
        Edge.due("no moons, the pull", Check.of("g1 1 5 0;").most(0, 0, LAST, 1), 0);
    }

    private static void mostWithinAPeriod() {
        Edge.says("Promise 21 (most), row 3", "the step in a PERIOD from t on at which PULL at a CELL is greatest");
        TidedGround g = Check.of("g1 1 5 0;" + Edge.RARE_LIFT);
        Edge.due("the last step of a period", g.most(0, 0, 0, 0), 503);
        Edge.due("its pull", g.most(0, 0, 0, 1), 3);
        Edge.due("at it", g.most(0, 0, 503, 0), 503);
        Edge.due("a step behind it", g.most(0, 0, 504, 0), 1007);
        Edge.due("from 900000", g.most(0, 0, LAST, 0), LAST + 503 - LAST % 504);
        Edge.due("from 900000, its pull", g.most(0, 0, LAST, 1), 3);
        // Pull, not height: a cell without softness has its most too, and another by its own place.
        TidedGround two = Check.of("g2 2 5 0;m1 3 9,9,9,9,9,10;");
        Edge.due("at 0 0", two.most(0, 0, 0, 0), 5);
        Edge.due("at 1 0", two.most(1, 0, 0, 0), 4);
        Edge.due("at 0 1", two.most(0, 1, 0, 0), 2);
        Edge.due("at 1 1", two.most(1, 1, 0, 0), 1);
    }

    private static void boundsOfBell() {
        Edge.says("Promise 22 (bell)", "BELL (limit 0 .. 999)");
        TidedGround g = Check.of("g2 1 50 0;c1 0 51 0;");
        Edge.due("limit 0", g.bell(0, 0, 0, 0, 0), 0);
        Edge.due("limit 999", g.bell(0, 0, 999, 0, 0), Check.NONE);
        Edge.due("limit 999, how often", g.bell(0, 0, 999, 0, 1), 0);
        Edge.outsideOf("bell, limit", 0, 999, g, v -> o -> o.bell(0, 0, v, 0, 0));
        Edge.due("t 900000", g.bell(0, 0, 0, LAST, 0), 0);
        Edge.outsideOf("bell, t", 0, LAST, g, v -> o -> o.bell(0, 0, 0, v, 0));
        Edge.outsideOf("bell, what", 0, 1, g, v -> o -> o.bell(0, 0, 0, 0, v));
        int[][] off = {{-1, 0}, {2, 0}, {0, -1}, {0, 1}};
        for (int[] at : off) {
            Edge.due("bell at " + at[0] + " " + at[1], g.bell(at[0], at[1], 0, 0, 0), Check.UNKNOWN);
            Edge.due("bell at " + at[0] + " " + at[1] + ", all else off", g.bell(at[0], at[1], 1000, -1, 2), Check.UNKNOWN);
        }
    }

    private static void bellAboveItsLimit() {
        Edge.says("Promise 22 (bell), row 3", "BELL at a CELL with a limit: LEAN is above it.");
        TidedGround g = Check.of("g2 1 99 9;c1 0 0 9;m1 0 18,0;m1 0 18,0;m1 0 18,0;");
        // The greatest lean of all, 585, at even steps.
        Edge.due("585 above 584", g.bell(0, 0, 584, 0, 0), 0);
        Edge.due("585 above 584 from 1", g.bell(0, 0, 584, 1, 0), 1);
        Edge.due("585 above 585", g.bell(0, 0, 585, 0, 0), Check.NONE);
        Edge.due("the other cell, above 584", g.bell(1, 0, 584, 0, 0), 0);
        Edge.due("flat ground above 0", Check.of("g2 1 9 0;").bell(0, 0, 0, 0, 0), Check.NONE);
        Edge.due("alone", Check.of("g1 1 9 9;m0 0 0,18;").bell(0, 0, 0, 0, 0), Check.NONE);
    }

    private static void ringsOfAPeriod() {
        Edge.says("Promise 22 (bell)", "what = 0 how many steps from t on (NONE), 1 how many steps of a PERIOD it rings at");
        TidedGround g = Check.of("g2 1 5 0;c1 0 5 1;" + Edge.RARE_MOONS);
        Edge.due("above 2 once in a period", g.bell(0, 0, 2, 0, 1), 1);
        Edge.due("above 2 once, from 504", g.bell(0, 0, 2, 504, 1), 1);
        Edge.due("above 2 once, from 900000", g.bell(0, 0, 2, LAST, 1), 1);
        Edge.due("above 2 at last", g.bell(0, 0, 2, 0, 0), 503);
        Edge.due("above 2 from 503", g.bell(0, 0, 2, 503, 0), 0);
        Edge.due("above 2 from 504", g.bell(0, 0, 2, 504, 0), 503);
        // Never a pull of 0 but where none of three is at its last: 504 less 6 times 7 times 8.
        Edge.due("above 0", g.bell(0, 0, 0, 0, 1), 504 - 6 * 7 * 8);
        Edge.due("above 3", g.bell(0, 0, 3, 0, 1), 0);
        Edge.due("above 3 never", g.bell(0, 0, 3, 0, 0), Check.NONE);
        TidedGround always = Check.of("g2 1 5 0;c1 0 9 1;" + Edge.RARE_MOONS);
        Edge.due("at all steps of a period", always.bell(0, 0, 0, 7, 1), 504);
        Edge.due("without moons", Check.of("g2 1 5 0;c1 0 9 0;").bell(0, 0, 3, 7, 1), 1);
    }

    private static void boundsOfBreaks() {
        Edge.says("Promise 23 (breaks)", "BREAKS: what = 0 the step itself, 1 the HOUSE; NONE. OUTSIDE.");
        TidedGround g = Check.of("g2 1 5 0;c1 0 9 0;h1 0 9;h0 0 3;");
        Edge.due("t 0", g.breaks(0, 0), 0);
        Edge.due("t 900000", g.breaks(LAST, 0), LAST);
        Edge.due("t 900000, the house", g.breaks(LAST, 1), 1);
        Edge.outsideOf("breaks, t", 0, LAST, g, v -> o -> o.breaks(v, 0));
        Edge.outsideOf("breaks, what", 0, 1, g, v -> o -> o.breaks(0, v));
        TidedGround none = new TidedGround();
        Edge.due("without cells", none.breaks(0, 0), Check.NONE);
        Edge.due("without cells, the house", none.breaks(LAST, 1), Check.NONE);
        Edge.outsideOf("breaks without cells, t", 0, LAST, none, v -> o -> o.breaks(v, 0));
        Edge.outsideOf("breaks without cells, what", 0, 1, none, v -> o -> o.breaks(0, v));
    }

    private static void firstBreakLeastHouse() {
        Edge.says("Promise 23 (breaks), row 3",
            "BREAKS: the first step from t on at which some HOUSE BREAKS: the step, the least HOUSE.");
        // Leans of 1 0 and its neighbours: 4, but 5 at steps that leave 3 by 4, and 6 at those that leave 2.
        TidedGround g = Check.of("g3 1 5 0;c1 0 9 1;m0 0 9,9,11,10;h0 0 6;h1 0 4;h2 0 4;");
        Edge.due("from 0", g.breaks(0, 0), 2);
        Edge.due("from 0, the least of two", g.breaks(0, 1), 1);
        Edge.due("at 3", g.breaks(3, 0), 3);
        Edge.due("from 4", g.breaks(4, 0), 6);
        g.prop(1, 1);
        Edge.due("with a prop, at 3", g.breaks(3, 1), 2);
        g.prop(1, 2);
        g.prop(2, 1);
        Edge.due("the other, from 3", g.breaks(3, 0), 6);
        Edge.due("the other, from 3, which", g.breaks(3, 1), 2);
        TidedGround last = Check.of(Edge.FULLEST);
        for (int h = 0; h < 5; h++) {
            last.prop(h, 999);
        }
        Edge.due("the last house of six", last.breaks(0, 1), 5);
    }

    private static void neverBreaks() {
        Edge.says("Promise 23 (breaks), row 3", "NONE: never");
        TidedGround g = Check.of("g2 1 50 0;c1 0 90 1;" + Edge.RARE_LIFT + "h0 0 42;");
        Edge.due("once in 504 steps", g.breaks(0, 0), 503);
        Edge.due("once in 504 steps, from 504", g.breaks(504, 0), 1007);
        Edge.due("from 900000", g.breaks(LAST, 0), LAST + 503 - LAST % 504);
        Edge.due("from 900000, the house", g.breaks(LAST, 1), 0);
        g.prop(0, 1);
        Edge.due("never by a prop", g.breaks(0, 0), Check.NONE);
        Edge.due("never by a prop, no house", g.breaks(0, 1), Check.NONE);
        Edge.due("no houses", Check.of("g2 1 5 0;c1 0 9 0;").breaks(0, 1), Check.NONE);
    }

    private static void sizesOfProps() {
        Edge.says("Promise 24 (props)", "PROPS of a size (1 .. 20): how many. OUTSIDE.");
        TidedGround g = Check.of("g2 1 0 0;c1 0 60 0;h0 0 0;");
        for (int size = 1; size <= 20; size++) {
            int many = 0;
            while (many * size < 60) {
                many++;
            }
            Edge.due("props(" + size + ")", g.props(size), many);
        }
        Edge.outsideOf("props", 1, 20, g, v -> o -> o.props(v));
        TidedGround none = new TidedGround();
        Edge.due("without cells", none.props(1), 0);
        Edge.due("without cells", none.props(20), 0);
        Edge.outsideOf("props without cells", 1, 20, none, v -> o -> o.props(v));
    }

    private static void eachHouseAsManyAsItNeeds() {
        Edge.says("Promise 24 (props), row 3", "how many are needed for all HOUSES in all, each HOUSE as many as it needs");
        // Six houses that lean by 99: needs of 99, 0, 1, 19, 20, 21.
        TidedGround g = Check.of("g6 1 0 0;c1 0 99 0;c3 0 99 0;c5 0 99 0;h0 0 0;h1 0 99;h2 0 98;h3 0 80;h4 0 79;h5 0 78;");
        int[] needs = {99, 0, 1, 19, 20, 21};
        for (int h = 0; h < 6; h++) {
            Edge.due("need of " + h, g.house(h, 4), needs[h]);
        }
        Edge.due("props(1)", g.props(1), 160);
        Edge.due("props(19)", g.props(19), 6 + 0 + 1 + 1 + 2 + 2);
        Edge.due("props(20)", g.props(20), 5 + 0 + 1 + 1 + 1 + 2);
        // Over all steps, not THE STEP alone, and by no props that are there.
        TidedGround rare = Check.of("g2 1 50 0;c1 0 90 1;" + Edge.RARE_LIFT + "h0 0 40;h1 0 41;");
        Edge.due("by the last step of a period", rare.props(1), 5);
        rare.prop(0, 3);
        Edge.due("by props that are there", rare.props(1), 5);
        Edge.due("the greatest need", Check.of("g2 1 99 9;c1 0 0 9;m1 0 18,0;m1 0 18,0;m1 0 18,0;h0 0 0;").props(1), 585);
    }
}
