/** Promises 30 to 33: see, fits, look, odds. */
public final class SeenTest {
    private static final int LAST = 900000;

    public static void main(String[] args) {
        see();
        fits();
        fitsInOrder();
        fitsUnderLoad();
        look();
        lookThatTellsNothing();
        lookAtTheLastStep();
        lookAtGreatPulls();
        manyFit();
        odds();
        Check.end();
    }

    private static void see() {
        TidedGround g = Check.of(Check.SMALL);
        Check.due("see no cell", g.see(3, 0, -1, 1000), Check.UNKNOWN);
        Check.due("see 0 2", g.see(0, 2, 0, 0), Check.UNKNOWN);
        Check.due("see at -1", g.see(0, 0, -1, 0), Check.OUTSIDE);
        Check.due("see at 1000", g.see(0, 0, 1000, 0), Check.OUTSIDE);
        Check.due("see -1000", g.see(0, 0, 0, -1000), Check.OUTSIDE);
        Check.due("see 1000", g.see(0, 0, 0, 1000), Check.OUTSIDE);
        Check.due("nothing seen", g.told(13), 0);
        Check.due("see at 999, -999", g.see(0, 0, 999, -999), 1);
        Check.due("see at 0, 999", g.see(2, 1, 0, 999), 2);
        for (int i = 3; i <= 12; i++) {
            Check.due("see the same again", g.see(0, 0, 0, 12), i);
        }
        Check.due("see a 13th", g.see(0, 0, 0, 12), Check.FULL);
        Check.due("see a 13th at 1000", g.see(0, 0, 1000, 12), Check.OUTSIDE);
        Check.due("see a 13th of no cell", g.see(9, 0, 0, 12), Check.UNKNOWN);
        Check.due("told(13)", g.told(13), 12);
    }

    private static void fits() {
        // One moon of 4 parts: 0, 1, 1, 5.
        TidedGround g = Check.of("g2 1 10 2;m1 0 9,10,10,14;");
        Check.due("all fit", g.fits(-1, 77), 4);
        g.see(0, 0, 0, 12);
        Check.due("two fit", g.fits(-1, 0), 2);
        Check.due("the first", g.fits(0, 0), 1);
        Check.due("the second", g.fits(1, 0), 2);
        Check.due("no third", g.fits(2, 0), Check.NONE);
        Check.due("none far off", g.fits(Integer.MAX_VALUE, 0), Check.NONE);
        Check.due("none below", g.fits(-2, 0), Check.NONE);
        Check.due("moon 1", g.fits(0, 1), Check.UNKNOWN);
        Check.due("moon -1", g.fits(0, -1), Check.UNKNOWN);
        Check.due("moon 1 of no third", g.fits(2, 1), Check.UNKNOWN);
        g.see(1, 0, 4, 20);
        Check.due("one fits", g.fits(-1, 0), 1);
        Check.due("the shift 2", g.fits(0, 0), 2);
        g.shift(0, 3);
        g.pass(5);
        Check.due("by no shift or step that is", g.fits(0, 0), 2);
        g.see(0, 0, 999, 12);
        Check.due("999 and 2 leave 1", g.fits(-1, 0), 1);
        g.see(0, 0, 999, 10);
        Check.due("none fits", g.fits(-1, 0), 0);
        Check.due("no first", g.fits(0, 0), Check.NONE);
        TidedGround still = Check.of("g1 1 10 2;");
        Check.due("no moons", still.fits(-1, 0), 1);
        Check.due("no moon 0", still.fits(0, 0), Check.UNKNOWN);
        still.see(0, 0, 3, 11);
        Check.due("no moons, and yet", still.fits(-1, 0), 0);
    }

    private static void fitsInOrder() {
        // Parts 0, 1 and 0, 1, 0 and 0, 1: a pull of 1 by one of them alone.
        TidedGround g = Check.of("g1 1 10 1;m0 0 9,10;m0 0 9,10,9;m0 0 9,10;");
        g.see(0, 0, 0, 11);
        int[][] want = {{0, 0, 1}, {0, 1, 0}, {0, 2, 1}, {1, 0, 0}, {1, 2, 0}};
        Check.due("how many", g.fits(-1, 0), want.length);
        for (int i = 0; i < want.length; i++) {
            for (int k = 0; k < 3; k++) {
                Check.due("fits(" + i + ", " + k + ")", g.fits(i, k), want[i][k]);
            }
        }
    }

    private static void fitsUnderLoad() {
        TidedGround g = Check.of("g1 1 10 2;m0 0 9,10,11;");
        g.see(0, 0, 0, 12);
        Check.due("pull 1", g.fits(0, 0), 1);
        g.load(0, 0, 10);
        Check.due("pull 2 under a load", g.fits(0, 0), 2);
        g.load(0, 0, 20);
        Check.due("none under more", g.fits(-1, 0), 0);
    }

    private static void look() {
        // Parts 0, 0, 1, 2 at cell 0 0; cell 1 0 is hard; cell 0 1 is a step ahead, cell 1 1 two.
        TidedGround g = Check.of("g2 2 10 1;c1 0 10 0;m1 1 9,9,10,11;");
        Check.due("the cell", g.look(0), 0);
        Check.due("the step", g.look(1), 0);
        Check.due("left in the worst case", g.look(2), 2);
        g.see(0, 0, 0, 10);
        // Shifts 0 and 1 are left: at step 1 the pull is 0 or 1 at cell 0 0; at step 0 already at 0 1.
        Check.due("the cell, two left", g.look(0), 1);
        Check.due("the step, two left", g.look(1), 0);
        Check.due("one is left then", g.look(2), 1);
        g.load(0, 1, 10);
        Check.due("the next cell, 0 1 under a load", g.look(0), 11);
        Check.due("its step", g.look(1), 0);
        g.load(1, 1, 10);
        Check.due("cell 0 0 at a later step", g.look(0), 0);
        Check.due("the later step", g.look(1), 1);
        g.see(0, 0, 1, 10);
        Check.due("one fits: no look", g.look(0), Check.NONE);
        Check.due("one fits: no step", g.look(1), Check.NONE);
        Check.due("one fits: nothing left", g.look(2), Check.NONE);
        g.see(0, 0, 1, 11);
        Check.due("none fits", g.look(0), Check.NONE);
        Check.due("look(-1)", g.look(-1), Check.OUTSIDE);
        Check.due("look(3)", g.look(3), Check.OUTSIDE);
        Check.due("look(3) without cells", new TidedGround().look(3), Check.OUTSIDE);
    }

    private static void lookThatTellsNothing() {
        Check.due("a row of like numbers", Check.of("g2 2 10 1;m1 1 12,12,12;").look(0), Check.NONE);
        Check.due("hard ground", Check.of("g2 2 10 0;m1 1 1,12,12;").look(2), Check.NONE);
        Check.due("no moons", Check.of("g2 2 10 5;").look(2), Check.NONE);
        // Two moons of opposite parts: shifts 0 0 and 1 1 always look alike.
        TidedGround g = Check.of("g1 1 10 1;m0 0 9,10;m0 0 10,9;");
        Check.due("three heights of four", g.look(2), 2);
        g.see(0, 0, 0, 11);
        Check.due("two that look alike", g.fits(-1, 0), 2);
        Check.due("no look tells them apart", g.look(0), Check.NONE);
        TidedGround far = Check.of("g1 1 10 1;m0 0 9,9,9,9,9,9,9,10,9;m0 0 9,9;");
        far.see(0, 0, 0, 10);
        Check.due("sixteen of eighteen", far.fits(-1, 0), 16);
        Check.due("the first step that tells", far.look(1), 1);
    }

    /** A look at step 11 counts, one at step 12 does not. */
    private static void lookAtTheLastStep() {
        TidedGround g = seenUpTo("g1 1 10 1;m0 0 8,10,8,8,10;m0 0 8,8,8,8,10,8,8,8,10;", 1, 6, 10);
        Check.due("two are alike up to step 10", g.fits(-1, 0), 2);
        Check.due("the cell at 11", g.look(0), 0);
        Check.due("the step 11", g.look(1), 11);
        Check.due("left at 11", g.look(2), 1);
        TidedGround h = seenUpTo("g1 1 10 1;m0 0 8,9,10,9,10,9,10,9,10;m0 0 8,9,10,9,10,9,10;", 4, 1, 11);
        Check.due("two are alike up to step 11", h.fits(-1, 0), 2);
        Check.due("step 12 is too late", h.look(1), Check.NONE);
        // The same by parts of -9 and 0, with a moon that is always -9: pulls of -27 at many steps before.
        TidedGround low = seenUpTo("g1 1 50 1;m0 0 0,9,0,0,9;m0 0 0,0,0,0,9,0,0,0,9;m0 0 0,0;", 1, 6, 10);
        Check.due("twice two are alike", low.fits(-1, 0), 4);
        Check.due("the step 11 by low pulls", low.look(1), 11);
        Check.due("left by low pulls", low.look(2), 2);
    }

    private static TidedGround seenUpTo(String text, int shift0, int shift1, int last) {
        TidedGround g = Check.of(text);
        g.shift(0, shift0);
        g.shift(1, shift1);
        for (int t = 0; t <= last; t++) {
            g.see(0, 0, t, g.height(0, 0, t));
        }
        return g;
    }

    /** Parts of 9 and -9 by three moons: pulls of -27, -9, 9, 27 by 1, 3, 3, 1 of the eight that fit. */
    private static void lookAtGreatPulls() {
        TidedGround g = Check.of("g1 1 50 1;m0 0 0,18;m0 0 0,18;m0 0 0,18;");
        Check.due("three of eight are left", g.look(2), 3);
        Check.due("the first step", g.look(1), 0);
        g.see(0, 0, 0, 59);
        Check.due("three fit", g.fits(-1, 0), 3);
        Check.due("no look tells them apart", g.look(2), Check.NONE);
        // Of 2, 3 and 4 parts, one of each is another: all by itself each moon can be told.
        TidedGround h = Check.of("g3 1 50 1;m0 1 0,18;m1 0 9,9,12;m2 0 9,9,9,10;");
        Check.due("24 fit", h.fits(-1, 0), 24);
        // At any cell and step: 6 of each half have neither, 3 the 3 alone, 2 the 1 alone, 1 both.
        Check.due("six are left", h.look(2), 6);
        h.see(0, 0, 0, 41);
        Check.due("moon 0 is known", h.fits(-1, 0), 6);
        // At cell 0 0 all six have neither; at 1 0 moon 1 is told apart, by one of two.
        Check.due("the cell that tells most", h.look(0), 10);
        Check.due("left of six", h.look(2), 2);
    }

    private static void manyFit() {
        TidedGround g = Check.of("g6 4 50 9;m1 2 0,1,2,3,4,5,6,7,8;m3 1 18,0,9,1,17,3,5,2,4;m8 5 9,9,0,18,0,18,9,9,3;");
        Check.due("nine by nine by nine", g.fits(-1, 0), 729);
        Check.due("the last", g.fits(728, 0) * 100 + g.fits(728, 1) * 10 + g.fits(728, 2), 888);
        Check.due("number 85", g.fits(85, 0) * 100 + g.fits(85, 1) * 10 + g.fits(85, 2), 104);
        Check.due("none past the last", g.fits(729, 0), Check.NONE);
        int left = g.look(2);
        int pair = g.look(0);
        Check.due("step of the look", g.look(1), 0);
        Check.due("the look is at cell 0 0: all look alike", pair, 0);
        Check.due("fewer are left", left > 0 && left < 729 ? 1 : 0, 1);
    }

    private static void odds() {
        // Moon 0 lifts cell 1 0 by 6, moon 1 by 3, both at even steps only.
        TidedGround g = Check.of("g2 1 10 0;c1 0 10 3;m0 0 11,9;m0 0 10,9;");
        Check.due("without 0 it leans 3", g.odds(0, 30, 0, 0, 2, 0), 1000000000);
        Check.due("above 3 with moon 0 alone", g.odds(0, 30, 0, 0, 3, 0), 300000000);
        Check.due("above 8 with both", g.odds(1, 7, 1, 0, 8, 0), 70000000);
        Check.due("above 6 with moon 1", g.odds(1, 1, 1, 0, 6, 0), 10000000);
        Check.due("above 9", g.odds(1, 50, 1, 0, 9, 0), 0);
        Check.due("surely there", g.odds(0, 100, 0, 0, 3, 0), 1000000000);
        Check.due("never there", g.odds(0, 0, 0, 0, 3, 0), 0);
        Check.due("at step 1 nothing leans", g.odds(0, 50, 0, 0, 0, 1), 0);
        Check.due("at 900000", g.odds(0, 50, 0, 0, 3, LAST), 500000000);
        Check.due("limit 999", g.odds(0, 50, 0, 0, 999, 0), 0);
        // Two that lift against each other: it leans without moon 1 alone.
        TidedGround h = Check.of("g2 1 10 0;c1 0 10 3;m0 0 11,9;m0 0 7,9;");
        Check.due("the rest", h.odds(1, 30, 0, 0, 0, 0), 700000000);
        Check.due("moon 2", g.odds(2, 101, 0, 0, 0, 0), Check.UNKNOWN);
        Check.due("moon -1", g.odds(-1, 0, 0, 0, 0, 0), Check.UNKNOWN);
        Check.due("no cell", g.odds(0, 101, 2, 0, 0, 0), Check.UNKNOWN);
        Check.due("no cell 0 1", g.odds(0, 0, 0, 1, 0, 0), Check.UNKNOWN);
        Check.due("q -1", g.odds(0, -1, 0, 0, 0, 0), Check.OUTSIDE);
        Check.due("q 101", g.odds(0, 101, 0, 0, 0, 0), Check.OUTSIDE);
        Check.due("limit -1", g.odds(0, 0, 0, 0, -1, 0), Check.OUTSIDE);
        Check.due("limit 1000", g.odds(0, 0, 0, 0, 1000, 0), Check.OUTSIDE);
        Check.due("step -1", g.odds(0, 0, 0, 0, 0, -1), Check.OUTSIDE);
        Check.due("step 900001", g.odds(0, 0, 0, 0, 0, LAST + 1), Check.OUTSIDE);
    }
}
