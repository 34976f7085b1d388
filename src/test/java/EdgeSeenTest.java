/** The edges that the document names, promises 30 to 33: see, fits, look, odds. */
public final class EdgeSeenTest {
    private static final int LAST = Edge.LAST_STEP;
    private static final int BILLION = 1000000000;

    public static void main(String[] args) {
        cellsOfSee();
        boundsOfSee();
        twelveAtMost();
        fitsOfNothingSeen();
        fitsAtTheEndsOfSee();
        allTwelveCount();
        kIsNotLookedAt();
        notSoMany();
        moonsOfFits();
        inOrder();
        boundsOfLook();
        fewerThanTwoFit();
        noneLeavesFewer();
        stepsToLookAt();
        leastStepThenLeastCell();
        theWorstCase();
        boundsOfOdds();
        moonsAndCellsOfOdds();
        ofABillion();
        aboveALimit();
        Check.end();
    }

    private static void cellsOfSee() {
        Edge.says("Promise 30 (see)", "SEEN (a HEIGHT -999 .. 999): how many. UNKNOWN");
        TidedGround g = Check.of("g6 4 5 1;m0 0 9,10;");
        Edge.due("see 5 3", g.see(5, 3, 0, 5), 1);
        int[][] off = {{-1, 0}, {6, 0}, {0, -1}, {0, 4}, {Edge.LEAST, 0}, {0, Edge.GREATEST}};
        for (int[] at : off) {
            Edge.due("see " + at[0] + " " + at[1], g.see(at[0], at[1], 0, 0), Check.UNKNOWN);
            Edge.due("see " + at[0] + " " + at[1] + ", all else off", g.see(at[0], at[1], -1, 1000), Check.UNKNOWN);
        }
        Edge.due("told(13)", g.told(13), 1);
        Edge.due("see without cells", new TidedGround().see(0, 0, 0, 0), Check.UNKNOWN);
    }

    private static void boundsOfSee() {
        Edge.says("Promise 30 (see), row 3", "at a step (0 .. 999) a CELL had a HEIGHT");
        TidedGround g = Check.of("g1 1 5 1;m0 0 9,10;");
        Edge.due("at 0", g.see(0, 0, 0, 5), 1);
        Edge.due("at 999", g.see(0, 0, 999, 6), 2);
        Edge.outsideOf("see, step", 0, 999, g, v -> o -> o.see(0, 0, v, 5));
        Edge.due("fits", g.fits(-1, 0), 1);
        Edge.says("Promise 30 (see)", "SEEN (a HEIGHT -999 .. 999)");
        Edge.outsideOf("see, height", -999, 999, g, v -> o -> o.see(0, 0, 0, v));
        Edge.due("told(13)", g.told(13), 2);
        Edge.due("a height of -999", g.see(0, 0, 0, -999), 3);
        Edge.due("a height of 999", g.see(0, 0, 0, 999), 4);
    }

    private static void twelveAtMost() {
        Edge.says("Promise 30 (see)", "FULL (12)");
        TidedGround g = Check.of("g1 1 5 1;m0 0 9,10;");
        for (int i = 1; i <= 12; i++) {
            Edge.due("see number " + i, g.see(0, 0, 2 * i, 5), i);
        }
        Edge.due("see number 13", g.see(0, 0, 1, 5), Check.FULL);
        Edge.due("see number 13 of no cell", g.see(1, 0, 1, 5), Check.UNKNOWN);
        Edge.due("see number 13 at 1000", g.see(0, 0, 1000, 5), Check.OUTSIDE);
        Edge.due("see number 13 of 1000", g.see(0, 0, 1, 1000), Check.OUTSIDE);
        Edge.due("told(13)", g.told(13), 12);
        Edge.due("the 13th is not counted: fits", g.fits(-1, 0), 1);
        Edge.due("tear()", g.tear(), 12);
        Edge.due("see behind it", g.see(0, 0, 1, 5), 1);
        Edge.due("fits behind it", g.fits(0, 0), 1);
    }

    private static void fitsOfNothingSeen() {
        Edge.says("Promise 31 (fits), row 3", "FITS: SHIFTS of all MOONS by which all is as SEEN: how many");
        Edge.due("without cells", new TidedGround().fits(-1, 0), 1);
        Edge.due("without moons", Check.of("g1 1 5 1;").fits(-1, 0), 1);
        Edge.due("2 of one", Check.of("g1 1 5 1;m0 0 9,10;").fits(-1, 0), 2);
        Edge.due("9, 9, 9", Check.of("g1 1 5 1;" + "m0 0 9,9,9,9,9,9,9,9,9;".repeat(3)).fits(-1, 0), 729);
        Edge.due("2, 9, 5", Check.of("g1 1 5 1;m0 0 9,9;m0 0 9,9,9,9,9,9,9,9,9;m0 0 9,9,9,9,9;").fits(-1, 0), 90);
        TidedGround still = Check.of("g1 1 5 1;");
        still.see(0, 0, 999, 5);
        Edge.due("without moons, as it is", still.fits(-1, 0), 1);
        still.see(0, 0, 0, 6);
        Edge.due("without moons, as it is not", still.fits(-1, 0), 0);
    }

    private static void fitsAtTheEndsOfSee() {
        Edge.says("Promise 31 (fits), row 3", "SEEN (12 at most): at a step (0 .. 999) a CELL had a HEIGHT.");
        // The greatest and the least of all heights, and steps 0 and 999, which leaves 0 by 9.
        TidedGround g = Check.of("g2 1 99 9;c1 0 0 9;" + "m1 0 18,0,9,9,9,9,9,9,9;".repeat(3));
        g.see(0, 0, 999, 342);
        Edge.due("342 at 999", g.fits(-1, 0), 1);
        g.see(1, 0, 0, -243);
        Edge.due("-243 at 0", g.fits(-1, 0), 1);
        for (int k = 0; k < 3; k++) {
            Edge.due("the shift of " + k, g.fits(0, k), 0);
        }
        TidedGround late = Check.of("g1 1 50 1;m0 0 9,10,11,12,13,14,15;");
        late.see(0, 0, 999, 50);
        Edge.due("999 leaves 5 by 7: the shift", late.fits(0, 0), 2);
    }

    private static void allTwelveCount() {
        Edge.says("Promise 31 (fits), row 3", "by which all is as SEEN");
        for (int wrong = 0; wrong < 12; wrong++) {
            TidedGround g = Check.of("g1 1 50 1;m0 0 9,10;");
            for (int i = 0; i < 12; i++) {
                g.see(0, 0, i, i % 2 == 0 ? 50 : 51);
            }
            Edge.due("all twelve", g.fits(-1, 0), 1);
            TidedGround spoilt = Check.of("g1 1 50 1;m0 0 9,10;");
            for (int i = 0; i < 12; i++) {
                spoilt.see(0, 0, i, (i % 2 == 0 ? 50 : 51) + (i == wrong ? 2 : 0));
            }
            Edge.due("all but number " + wrong, spoilt.fits(-1, 0), 0);
        }
        TidedGround twice = Check.of("g1 1 50 1;m0 0 9,10;");
        twice.see(0, 0, 0, 50);
        twice.see(0, 0, 0, 51);
        Edge.due("both of one cell and step", twice.fits(-1, 0), 0);
    }

    private static void kIsNotLookedAt() {
        Edge.says("Promise 31 (fits)", "i = NONE how many (k is not looked at)");
        TidedGround g = Check.of("g1 1 5 1;m0 0 9,10;");
        for (int k : new int[] {-1, 0, 1, 3, Edge.LEAST, Edge.GREATEST}) {
            Edge.due("fits(-1, " + k + ")", g.fits(-1, k), 2);
            Edge.due("without moons, fits(-1, " + k + ")", new TidedGround().fits(-1, k), 1);
        }
    }

    private static void notSoMany() {
        Edge.says("Promise 31 (fits)", "else the i-th one's SHIFT of MOON k; NONE: not so many");
        TidedGround g = Check.of("g1 1 5 1;m0 0 9,10;m0 0 9,9,9;");
        Edge.due("the last", g.fits(5, 0) * 10 + g.fits(5, 1), 12);
        for (int i : new int[] {6, 7, 728, 729, 730, Edge.GREATEST, -2, Edge.LEAST}) {
            Edge.due("fits(" + i + ", 0)", g.fits(i, 0), Check.NONE);
            Edge.due("fits(" + i + ", 1)", g.fits(i, 1), Check.NONE);
        }
        g.see(0, 0, 0, 7);
        Edge.due("none fits", g.fits(0, 0), Check.NONE);
        TidedGround most = Check.of("g1 1 5 1;" + "m0 0 9,9,9,9,9,9,9,9,9;".repeat(3));
        Edge.due("number 728 of 729", most.fits(728, 2), 8);
        Edge.due("number 729 of 729", most.fits(729, 2), Check.NONE);
    }

    private static void moonsOfFits() {
        Edge.says("Promise 31 (fits)", "UNKNOWN (k)");
        TidedGround g = Check.of("g1 1 5 1;m0 0 9,10;m0 0 9,9,9;m0 0 9,9;");
        Edge.due("moon 2", g.fits(0, 2), 0);
        for (int k : new int[] {-1, 3, Edge.LEAST, Edge.GREATEST}) {
            Edge.due("fits(0, " + k + ")", g.fits(0, k), Check.UNKNOWN);
            Edge.due("of too many, fits(99, " + k + ")", g.fits(99, k), Check.UNKNOWN);
        }
        Edge.due("moon 1 of one", Check.of("g1 1 5 1;m0 0 9,10;").fits(0, 1), Check.UNKNOWN);
        Edge.due("moon 0 of none", Check.of("g1 1 5 1;").fits(0, 0), Check.UNKNOWN);
        Edge.due("moon 0 without cells", new TidedGround().fits(0, 0), Check.UNKNOWN);
    }

    private static void inOrder() {
        Edge.says("Promise 31 (fits), row 3", "the i-th (MOON 0 counts first): the SHIFT of a MOON");
        TidedGround g = Check.of("g1 1 5 1;m0 0 9,9;m0 0 9,9,9;m0 0 9,9;");
        for (int i = 0; i < 12; i++) {
            Edge.due("fits(" + i + ", 0)", g.fits(i, 0), i / 6);
            Edge.due("fits(" + i + ", 1)", g.fits(i, 1), i / 2 % 3);
            Edge.due("fits(" + i + ", 2)", g.fits(i, 2), i % 2);
        }
    }

    private static void boundsOfLook() {
        Edge.says("Promise 32 (look)",
            "LOOK: what = 0 the CELL (a PAIR), 1 the step, 2 how many are left in the worst case; NONE. OUTSIDE.");
        // The one soft cell is 5 3; two shifts of four have the same part there at each step.
        TidedGround g = Check.of("g6 4 5 0;c5 3 5 1;m1 1 9,9,10,10;");
        Edge.due("what 0", g.look(0), 53);
        Edge.due("what 1", g.look(1), 0);
        Edge.due("what 2", g.look(2), 2);
        Edge.outsideOf("look", 0, 2, g, v -> o -> o.look(v));
        TidedGround none = new TidedGround();
        for (int what = 0; what <= 2; what++) {
            Edge.due("without cells, what " + what, none.look(what), Check.NONE);
        }
        Edge.outsideOf("look without cells", 0, 2, none, v -> o -> o.look(v));
    }

    private static void noLook(String when, TidedGround g) {
        for (int what = 0; what <= 2; what++) {
            Edge.due(when + ", what " + what, g.look(what), Check.NONE);
        }
    }

    private static void fewerThanTwoFit() {
        Edge.says("Promise 32 (look), row 3", "NONE: fewer than two FIT");
        TidedGround g = Check.of("g1 1 5 1;m0 0 9,10;");
        Edge.due("two fit: one is left", g.look(2), 1);
        g.see(0, 0, 0, 5);
        Edge.due("one fits", g.fits(-1, 0), 1);
        noLook("one fits", g);
        g.see(0, 0, 1, 5);
        Edge.due("none fits", g.fits(-1, 0), 0);
        noLook("none fits", g);
        noLook("no moons", Check.of("g2 1 5 9;"));
    }

    private static void noneLeavesFewer() {
        Edge.says("Promise 32 (look), row 3", "or none leaves fewer");
        noLook("a row of like numbers", Check.of("g6 4 5 9;m1 2 12,12;"));
        noLook("hard ground", Check.of("g6 4 5 0;m1 2 0,18;"));
        TidedGround loaded = Check.of("g1 1 5 1;m0 0 0,18;");
        loaded.load(0, 0, 9);
        Edge.due("under 9", loaded.look(2), 1);
        loaded.load(0, 0, 10);
        noLook("under 10", loaded);
        TidedGround twins = Check.of("g1 1 5 1;m0 0 9,10;m0 0 9,10;");
        twins.see(0, 0, 0, 6);
        Edge.due("two fit", twins.fits(-1, 0), 2);
        noLook("two that always pull alike", twins);
    }

    /** Two shifts that fit, which look alike up to a step. */
    private static TidedGround alikeUpTo(String text, int a, int b, int last) {
        TidedGround g = Check.of(text);
        g.shift(0, a);
        g.shift(1, b);
        for (int t = 0; t <= last; t++) {
            g.see(0, 0, t, g.height(0, 0, t));
        }
        Edge.due("two fit", g.fits(-1, 0), 2);
        return g;
    }

    private static void stepsToLookAt() {
        Edge.says("Promise 32 (look), row 3", "of CELLS and steps 0 to 11");
        TidedGround at11 = alikeUpTo("g1 1 10 1;m0 0 8,10,8,8,10;m0 0 8,8,8,8,10,8,8,8,10;", 1, 6, 10);
        Edge.due("told apart at 11", at11.look(1), 11);
        Edge.due("told apart at 11, left", at11.look(2), 1);
        TidedGround at12 = alikeUpTo("g1 1 10 1;m0 0 8,9,10,9,10,9,10,9,10;m0 0 8,9,10,9,10,9,10;", 4, 1, 11);
        noLook("told apart at 12", at12);
        TidedGround low = Check.of("g1 1 50 1;m0 0 0,9,0,0,9;m0 0 0,0,0,0,9,0,0,0,9;m0 0 0,0;");
        low.shift(0, 1);
        low.shift(1, 6);
        for (int t = 0; t <= 10; t++) {
            low.see(0, 0, t, low.height(0, 0, t));
        }
        Edge.due("four fit, by pulls of -27 at many steps before", low.fits(-1, 0), 4);
        Edge.due("told apart at 11", low.look(1), 11);
        Edge.due("two are left", low.look(2), 2);
        TidedGround at0 = Check.of("g1 1 10 1;m0 0 8,10;");
        Edge.due("told apart at 0", at0.look(1), 0);
        at0.pass(5);
        Edge.due("THE STEP is not looked at", at0.look(1), 0);
    }

    private static void leastStepThenLeastCell() {
        Edge.says("Promise 32 (look), row 3", "of like ones the least step, then the least CELL number");
        Edge.due("all cells alike", Check.of("g6 4 5 1;m0 0 9,10;").look(0), 0);
        // Hard cells do not count: the first soft one in the order of numbers, X before Y.
        Edge.due("cells 1 and 2 of a row", Check.of("g3 2 5 0;c2 0 5 1;c1 0 5 1;c0 1 5 1;m0 0 9,10;").look(0), 10);
        Edge.due("2 0 before 0 1", Check.of("g3 2 5 0;c2 0 5 1;c0 1 5 1;m0 0 9,10;").look(0), 20);
        Edge.due("0 1 before 1 1", Check.of("g3 2 5 0;c1 1 5 1;c0 1 5 1;m0 0 9,10;").look(0), 1);
        // Shifts 0 and 1 fit; cell 0 tells them apart at step 1, cell 1, a step ahead, at step 0.
        TidedGround step = Check.of("g2 1 5 1;m1 0 9,9,10,11,11,11;");
        step.see(0, 0, 0, 5);
        Edge.due("two fit", step.fits(-1, 0), 2);
        Edge.due("the least step before the least cell", step.look(0), 10);
        Edge.due("the least step", step.look(1), 0);
        step.load(1, 0, 10);
        Edge.due("the other cell, hard the first", step.look(0), 0);
        Edge.due("at its step", step.look(1), 1);
    }

    private static void theWorstCase() {
        Edge.says("Promise 32 (look), row 3",
            "that by which the fewest of those that FIT are left in the worst case (those with the HEIGHT that most of them have)");
        // Parts of 0 by four shifts of six, whatever the step.
        TidedGround g = Check.of("g1 1 5 1;m0 0 9,9,9,9,10,11;");
        Edge.due("four of six at any step", g.look(2), 4);
        Edge.due("the first step", g.look(1), 0);
        TidedGround two = Check.of("g1 1 5 1;m0 0 9,9,10;m0 0 9,12;");
        Edge.due("two of six", two.look(2), 2);
        // Three fit; at step 0 all are alike, at 1 two are, at 2 none.
        TidedGround later = Check.of("g1 1 5 1;m0 0 9,9,9,10,11,12,13;");
        later.see(0, 0, 0, 5);
        Edge.due("three fit", later.fits(-1, 0), 3);
        Edge.due("one is left in the worst case", later.look(2), 1);
        Edge.due("at step 2", later.look(1), 2);
        Edge.due("all different at once", Check.of("g1 1 50 1;m0 0 0,3,6,9,12,15,18;").look(2), 1);
        // 729 fit by a row that is another number once: 8 of 9 by each moon have none of it.
        TidedGround many = Check.of("g1 1 50 1;" + "m0 0 9,9,9,9,9,9,9,9,10;".repeat(3));
        Edge.due("512 of 729", many.look(2), 512);
        // Pulls of -27, -9, 9 and 27, the least and the greatest of all: by 1, 3, 3 and 1 of eight.
        TidedGround great = Check.of("g1 1 50 9;m0 0 0,18;m0 0 0,18;m0 0 0,18;");
        Edge.due("three of eight", great.look(2), 3);
        great.see(0, 0, 0, 50 - 27 * 9);
        Edge.due("-27 by one", great.fits(-1, 0), 1);
        // Two by moon 0, three by moon 1, four by moon 2, each another once: 1 of 2, 2 of 3 and 3 of 4 are alike.
        TidedGround three = Check.of("g3 1 50 1;m0 1 0,18;m1 0 9,9,12;m2 0 9,9,9,10;");
        Edge.due("six of 24", three.look(2), 6);
        three.see(0, 0, 0, 41);
        Edge.due("six fit", three.fits(-1, 0), 6);
        Edge.due("two of six", three.look(2), 2);
        Edge.due("at 1 0, where moons 1 and 2 are further on", three.look(0), 10);
    }

    private static void boundsOfOdds() {
        Edge.says("Promise 33 (odds)", "(q 0 .. 100, limit 0 .. 999, t 0 .. 900000)");
        TidedGround g = Check.of("g2 1 5 0;c1 0 5 1;m0 0 10,9;");
        Edge.due("q 0", g.odds(0, 0, 0, 0, 0, 0), 0);
        Edge.due("q 100", g.odds(0, 100, 0, 0, 0, 0), BILLION);
        Edge.outsideOf("odds, q", 0, 100, g, v -> o -> o.odds(0, v, 0, 0, 0, 0));
        Edge.due("limit 0", g.odds(0, 50, 0, 0, 0, 0), BILLION / 2);
        Edge.due("limit 999", g.odds(0, 50, 0, 0, 999, 0), 0);
        Edge.outsideOf("odds, limit", 0, 999, g, v -> o -> o.odds(0, 50, 0, 0, v, 0));
        Edge.due("t 899999", g.odds(0, 50, 0, 0, 0, LAST - 1), 0);
        Edge.due("t 900000", g.odds(0, 50, 0, 0, 0, LAST), BILLION / 2);
        Edge.outsideOf("odds, t", 0, LAST, g, v -> o -> o.odds(0, 50, 0, 0, 0, v));
    }

    private static void moonsAndCellsOfOdds() {
        Edge.says("Promise 33 (odds)", "UNKNOWN, OUTSIDE.");
        TidedGround g = Check.of("g2 1 5 0;c1 0 5 1;m0 0 10,9;m0 0 9,9;m0 0 9,9;");
        Edge.due("moon 2", g.odds(2, 50, 0, 0, 0, 0), BILLION);
        for (int k : new int[] {-1, 3, Edge.LEAST, Edge.GREATEST}) {
            Edge.due("moon " + k, g.odds(k, 50, 0, 0, 0, 0), Check.UNKNOWN);
            Edge.due("moon " + k + ", all else off", g.odds(k, 101, 0, 0, -1, -1), Check.UNKNOWN);
        }
        int[][] off = {{-1, 0}, {2, 0}, {0, -1}, {0, 1}};
        for (int[] at : off) {
            Edge.due("cell " + at[0] + " " + at[1], g.odds(0, 50, at[0], at[1], 0, 0), Check.UNKNOWN);
            Edge.due("cell " + at[0] + " " + at[1] + ", all else off", g.odds(0, 101, at[0], at[1], 1000, -1), Check.UNKNOWN);
        }
        Edge.due("without moons", Check.of("g2 1 5 0;c1 0 9 0;").odds(0, 50, 0, 0, 0, 0), Check.UNKNOWN);
        Edge.due("without cells", new TidedGround().odds(0, 50, 0, 0, 0, 0), Check.UNKNOWN);
    }

    private static void ofABillion() {
        Edge.says("Promise 33 (odds), row 3", "BILLION times q / 100, if it is so with it, and the rest, if it is so without");
        // With moon 0 a lean of 3, without it 0; with moon 1 a lean of 3 still, without it 3.
        TidedGround g = Check.of("g2 1 5 0;c1 0 5 1;m0 0 12,9;m0 0 9,9;");
        // A moon that holds it level: with it 0, without it 4.
        TidedGround level = Check.of("g2 1 5 0;c1 0 9 1;m0 0 5,9;");
        for (int q : new int[] {0, 1, 33, 50, 99, 100}) {
            Edge.due("with it alone, q " + q, g.odds(0, q, 0, 0, 2, 0), q * 10000000);
            Edge.due("with it and without, q " + q, g.odds(1, q, 0, 0, 2, 0), BILLION);
            Edge.due("neither, q " + q, g.odds(1, q, 0, 0, 3, 0), 0);
            Edge.due("without it alone, q " + q, level.odds(0, q, 0, 0, 3, 0), BILLION - q * 10000000);
        }
    }

    private static void aboveALimit() {
        Edge.says("Promise 33 (odds), row 3", "that LEAN of a CELL at a step is above a limit");
        TidedGround g = Check.of("g2 1 99 9;c1 0 0 9;m1 0 18,0;m1 0 18,0;m1 0 18,0;");
        // A lean of 585 by all three, of 99 and 18 times 9 by each two.
        Edge.due("585 above 584", g.odds(2, 10, 0, 0, 584, 0), BILLION / 10);
        Edge.due("585 above 585", g.odds(2, 10, 0, 0, 585, 0), 0);
        Edge.due("423 by two above 422", g.odds(0, 10, 1, 0, 422, 0), BILLION);
        Edge.due("423 by two above 423", g.odds(1, 10, 1, 0, 423, 0), BILLION / 10);
        Edge.due("alone", Check.of("g1 1 5 9;m0 0 18,0;").odds(0, 50, 0, 0, 0, 0), 0);
    }
}
