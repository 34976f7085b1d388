/**
 * The largest step, and what is asked across it. All moons stand at 900000 as they stand at 360, 504 being the PERIOD of
 * the ground here: what is asked of the one must be answered as what is asked of the other.
 */
public final class EdgeFarTest {
    private static final int PERIOD = 504;
    private static final int FAR = Edge.LAST_STEP;
    private static final int NEAR = FAR % PERIOD;
    private static final String GROUND = "g4 3 20 2;c1 1 9 5;c2 1 33 1;c3 2 41 3;m1 2 9,12,5,10,9,3,14;m3 1 9,8,9,11,9,9,13,2;"
        + "m2 7 9,9,10,9,9,6,9,9,12;h1 1 24;h2 1 9;k0 0 0 33;k1 1 1 31;w0 0 9;w3 2 30;w1 1 0;d110 125;d90 140;";

    public static void main(String[] args) {
        Edge.says("Promise 5 (told), row 2", "PERIOD: the least number of steps behind which all MOONS stand as they stood");
        Edge.due("told(9)", Check.of(GROUND).told(9), PERIOD);
        Edge.due("where 900000 is in a period", NEAR, 360);
        atTheStep();
        acrossIt();
        journeysAcrossIt();
        stepsItself();
        beyondIt();
        booksAcrossIt();
        theLastCall();
        Check.end();
    }

    private static void atTheStep() {
        Edge.says("Promises 6, 8, 9 (cell, moon, house)", "(the last three at THE STEP)");
        TidedGround far = Edge.late(GROUND, FAR);
        TidedGround near = Edge.late(GROUND, NEAR);
        for (int c = 0; c < 12; c++) {
            for (int what = 4; what <= 6; what++) {
                Edge.due("cell " + c + ", what " + what, far.cell(c % 4, c / 4, what), near.cell(c % 4, c / 4, what));
            }
        }
        for (int i = 0; i < 3; i++) {
            Edge.due("moon " + i, far.moon(i, 4), near.moon(i, 4));
        }
        for (int h = 0; h < 2; h++) {
            Edge.due("house " + h, far.house(h, 3), near.house(h, 3));
            Edge.due("need of house " + h, far.house(h, 4), near.house(h, 4));
        }
    }

    /** Answers that are counted from t on, or are of t alone. */
    private static int[] answers(TidedGround g, int t) {
        return new int[] {g.level(3, 2, t), g.level(4095, 60, t), g.level(0x810, 9, t), g.level(0x800, 0, t), g.aslant(t),
            g.turn(0, 0, t), g.turn(3, 2, t), g.most(2, 0, t, 1), g.bell(1, 1, 30, t, 0), g.bell(1, 1, 30, t, 1),
            g.bell(3, 2, 45, t, 0), g.breaks(t, 1), g.water(100, t, 0), g.water(100, t, 1), g.water(1, t, 2), g.whose(0, t),
            g.whose(1, t), g.odds(0, 30, 1, 1, 25, t), g.odds(2, 30, 2, 1, 20, t), g.height(3, 2, t), g.crack(0, t),
            g.crack(1, t)};
    }

    private static void acrossIt() {
        Edge.says("Promises 7, 10, 18 to 23, 27, 28, 33", "NEXT from step t on (0: at t)");
        for (int back = 0; back <= 30; back++) {
            int[] far = answers(Check.of(GROUND), FAR - back);
            int[] near = answers(Check.of(GROUND), NEAR - back);
            for (int i = 0; i < far.length; i++) {
                Edge.due("answer " + i + " at " + (FAR - back), far[i], near[i]);
            }
        }
    }

    private static void journeysAcrossIt() {
        Edge.says("Promises 25, 26 (soonest, least)", "t 0 .. 900000");
        TidedGround g = Check.of(GROUND);
        g.steep(9);
        for (int back : new int[] {0, 1, 2, 5, 39, 59}) {
            for (int[] way : new int[][] {{0, 32}, {32, 0}, {11, 21}, {30, 2}}) {
                Edge.due("soonest from " + way[0] + " at " + (FAR - back), g.soonest(way[0], way[1], FAR - back),
                    g.soonest(way[0], way[1], NEAR - back));
                for (int i = -1; i < 4; i++) {
                    Edge.due("least from " + way[0] + " at " + (FAR - back) + ", " + i, g.least(way[0], way[1], FAR - back, 9, i),
                        g.least(way[0], way[1], NEAR - back, 9, i));
                }
            }
        }
    }

    private static void stepsItself() {
        Edge.says("Promises 21, 23 (most, breaks)", "what = 0 the step itself");
        TidedGround g = Check.of(GROUND);
        for (int back : new int[] {0, 1, 2, 100, 300}) {
            for (int c = 0; c < 12; c++) {
                Edge.due("most at " + (FAR - back) + " of " + c, g.most(c % 4, c / 4, FAR - back, 0) - FAR,
                    g.most(c % 4, c / 4, NEAR - back, 0) - NEAR);
            }
            Edge.due("breaks at " + (FAR - back), g.breaks(FAR - back, 0) - FAR, g.breaks(NEAR - back, 0) - NEAR);
        }
    }

    private static void beyondIt() {
        Edge.says("Promises 7, 10 (height, crack)", "(0 .. 999999)");
        TidedGround g = Check.of(GROUND);
        int late = Edge.LAST_TOLD;
        for (int t : new int[] {FAR + 1, FAR + PERIOD, late - 1, late}) {
            for (int c = 0; c < 12; c++) {
                Edge.due("height of " + c + " at " + t, g.height(c % 4, c / 4, t), g.height(c % 4, c / 4, t % PERIOD));
            }
            Edge.due("crack 0 at " + t, g.crack(0, t), g.crack(0, t % PERIOD));
            Edge.due("crack 1 at " + t, g.crack(1, t), g.crack(1, t % PERIOD));
        }
    }

    private static void booksAcrossIt() {
        Edge.says("Promise 36 (judge)", "from THE STEP on");
        int[] book = {0, 3, 2, 1, 0, 2, 3, 3, 2, 4, 4, 1, 4, 0, 3, 2, 1, 1, 2, 2};
        for (int back : new int[] {0, 1, 5, 19}) {
            TidedGround far = Edge.late(GROUND, FAR - back);
            TidedGround near = Edge.late(GROUND, NEAR - back);
            for (int steep : new int[] {99, 20, 3}) {
                far.tear();
                near.tear();
                far.steep(steep);
                near.steep(steep);
                for (int way : book) {
                    far.write(way);
                    near.write(way);
                    Edge.due("judge(0) from " + (FAR - back), far.judge(0), near.judge(0));
                    Edge.due("judge(1) from " + (FAR - back), far.judge(1), near.judge(1));
                }
            }
        }
    }

    private static void theLastCall() {
        Edge.says("Promises 1, 11 (a new object, pass)", "An object is used for at most 512 calls after it has been made");
        TidedGround g = new TidedGround();
        for (int call = 1; call <= 512; call++) {
            Edge.due("pass(1) as call " + call, g.pass(1), call);
        }
        TidedGround text = Check.of("g2 1 5 1;m0 0 9,10;");
        for (int call = 21; call < 512; call++) {
            text.drift(1);
        }
        Edge.due("told(8) as the last call", text.told(8), 491);
    }
}
