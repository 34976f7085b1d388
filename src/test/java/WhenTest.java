/** Promises 18 to 24: level, aslant, turn, most, bell, breaks, props. */
public final class WhenTest {
    private static final int LAST = 900000;

    public static void main(String[] args) {
        level();
        aslant();
        turn();
        most();
        bell();
        breaks();
        props();
        Check.end();
    }

    private static void level() {
        // Cell 0 is 0 always; cell 1 is 4, 2, 1 at steps 0, 1, 2 (period 3); cell 2 is 1 always.
        TidedGround g = Check.of("g3 1 0 0;c1 0 2 1;c2 0 1 0;m0 0 11,9,8;");
        Check.due("0 and 1 within 1", g.level(3, 1, 0), 2);
        Check.due("0 and 1 within 1 from 2", g.level(3, 1, 2), 0);
        Check.due("0 and 1 within 1 from 3", g.level(3, 1, 3), 2);
        Check.due("0 and 1 within 2", g.level(3, 2, 0), 1);
        Check.due("0 and 1 within 0", g.level(3, 0, 0), Check.NONE);
        Check.due("1 and 2 within 0", g.level(6, 0, 0), 2);
        Check.due("0 and 2 within 0", g.level(5, 0, 0), Check.NONE);
        Check.due("all within 4", g.level(7, 4, 0), 0);
        Check.due("one cell", g.level(2, 0, 1), 0);
        Check.due("from 900000, a step that leaves 0 by 3", g.level(3, 1, LAST), 2);
        Check.due("no cell", g.level(0, 0, 0), Check.OUTSIDE);
        Check.due("bit 3", g.level(8, 0, 0), Check.UNKNOWN);
        Check.due("bit 3 too", g.level(9, 100, -1), Check.UNKNOWN);
        Check.due("bit 31", g.level(Integer.MIN_VALUE, 0, 0), Check.UNKNOWN);
        Check.due("all bits", g.level(-1, 0, 0), Check.UNKNOWN);
        Check.due("e 100", g.level(1, 100, 0), Check.OUTSIDE);
        Check.due("e 99", g.level(1, 99, 0), 0);
        Check.due("e -1", g.level(1, -1, 0), Check.OUTSIDE);
        Check.due("step -1", g.level(1, 0, -1), Check.OUTSIDE);
        Check.due("step 900001", g.level(1, 0, LAST + 1), Check.OUTSIDE);
        TidedGround big = Check.of("g6 4 0 0;c0 1 9 0;");
        Check.due("cell 6 is 0 1", big.level(1 | 1 << 6, 8, 0), Check.NONE);
        Check.due("cell 6 within 9", big.level(1 | 1 << 6, 9, 0), 0);
        Check.due("cell 23", big.level(1 | 1 << 23, 0, 0), 0);
        Check.due("bit 24", big.level(1 << 24, 0, 0), Check.UNKNOWN);
        // The last step of a period: 503 of 504.
        TidedGround slow = Check.of("g2 1 0 0;c1 0 1 1;m0 0 10,9,9,9,9,9,8;m0 0 9,9,9,9,9,9,9,8;m0 0 9,9,9,9,9,9,9,9,8;");
        Check.due("level by three moons", slow.level(3, 0, 0), 6);
        TidedGround rare = Check.of("g2 1 0 0;c1 0 3 1;m0 0 9,9,9,9,9,9,8;m0 0 9,9,9,9,9,9,9,8;m0 0 9,9,9,9,9,9,9,9,8;");
        Check.due("once in a period", rare.level(3, 0, 0), 503);
        Check.due("once in a period from 504", rare.level(3, 0, 504), 503);
        Check.due("once in a period at 503", rare.level(3, 0, 503), 0);
    }

    private static void aslant() {
        // In a row: 0, then 2 or 0 by turns, then 1.
        TidedGround g = Check.of("g3 1 0 0;c1 0 1 1;c2 0 5 0;m0 0 10,8;");
        Check.due("aslant(0)", g.aslant(0), 0);
        Check.due("aslant(1)", g.aslant(1), 1);
        Check.due("aslant(900000)", g.aslant(LAST), 0);
        Check.due("aslant(-1)", g.aslant(-1), Check.OUTSIDE);
        Check.due("aslant(900001)", g.aslant(LAST + 1), Check.OUTSIDE);
        // Cell 1 0 is 0, 0, 1: aslant at steps that leave 2 by 3.
        TidedGround three = Check.of("g2 1 0 0;c1 0 0 1;m0 0 9,9,10;");
        Check.due("aslant(0) of three", three.aslant(0), 2);
        Check.due("aslant(1) of three", three.aslant(1), 1);
        Check.due("aslant(3) of three", three.aslant(3), 2);
        Check.due("flat ground", Check.of("g2 1 5 0;").aslant(0), Check.NONE);
        Check.due("one cell", Check.of("g1 1 5 0;").aslant(0), Check.NONE);
        Check.due("one cell, no step", Check.of("g1 1 5 0;").aslant(-1), Check.OUTSIDE);
        Check.due("no cells", new TidedGround().aslant(0), Check.NOT);
        Check.due("no cells, no step", new TidedGround().aslant(-1), Check.OUTSIDE);
        Check.due("in a column", Check.of("g1 2 5 0;").aslant(0), Check.NONE);
        Check.due("like ones at a corner are fine", Check.of("g2 2 5 0;c1 0 6 0;c0 1 7 0;").aslant(0), 0);
        Check.due("two of like height in a column", Check.of("g2 2 5 0;c1 0 6 0;c1 1 6 0;").aslant(0), Check.NONE);
        Check.due("the end of a row is not beside the next", Check.of("g2 2 1 0;c1 0 2 0;c0 1 2 0;c1 1 3 0;").aslant(0), 0);
    }

    private static void turn() {
        // Parts 0, 1, 3, 3, 1, 0, 2: up to a flat top, down to a valley at 5, a peak at 6, a valley at 7.
        TidedGround g = Check.of("g2 1 0 2;c1 0 0 0;m0 0 9,10,12,12,10,9,11;");
        Check.due("the valley at 5", g.turn(0, 0, 1), 4);
        Check.due("the peak at 6", g.turn(0, 0, 6), 0);
        Check.due("the valley at 7", g.turn(0, 0, 7), 0);
        Check.due("from 8, the valley at 12", g.turn(0, 0, 8), 4);
        Check.due("hard ground", g.turn(1, 0, 1), Check.NONE);
        Check.due("turn at 0", g.turn(0, 0, 0), Check.OUTSIDE);
        Check.due("turn at 900001", g.turn(0, 0, LAST + 1), Check.OUTSIDE);
        Check.due("turn of no cell", g.turn(2, 0, 0), Check.UNKNOWN);
        Check.due("turn at -1", g.turn(0, 0, -1), Check.OUTSIDE);
        // Up and down at each step.
        TidedGround two = Check.of("g1 1 0 1;m0 0 9,10;");
        Check.due("a valley at 2", two.turn(0, 0, 2), 0);
        Check.due("a peak at 1", two.turn(0, 0, 1), 0);
        Check.due("at 900000", two.turn(0, 0, LAST), 0);
        // A flat top and a flat bottom are no turns.
        Check.due("flat top and bottom", Check.of("g1 1 0 1;m0 0 9,9,10,10;").turn(0, 0, 1), Check.NONE);
        Check.due("no moons", Check.of("g1 1 0 1;").turn(0, 0, 1), Check.NONE);
        Check.due("a load stills it", loaded(two), Check.NONE);
    }

    private static int loaded(TidedGround g) {
        g.load(0, 0, 10);
        return g.turn(0, 0, 1);
    }

    private static void most() {
        // Parts 1, 3, 3, -2 at cell 0 0; a step ahead at 1 0, two steps at 0 1.
        TidedGround g = Check.of("g2 2 50 0;m1 2 10,12,12,7;");
        Check.due("most from 0", g.most(0, 0, 0, 0), 1);
        Check.due("its pull", g.most(0, 0, 0, 1), 3);
        Check.due("most from 1", g.most(0, 0, 1, 0), 1);
        Check.due("most from 2", g.most(0, 0, 2, 0), 2);
        Check.due("most from 3", g.most(0, 0, 3, 0), 5);
        Check.due("most at 1 0", g.most(1, 0, 0, 0), 0);
        Check.due("most at 1 0 from 2", g.most(1, 0, 2, 0), 4);
        Check.due("most at 0 1 from 1", g.most(0, 1, 1, 0), 3);
        Check.due("most from 900000", g.most(0, 0, LAST, 0), LAST + 1);
        Check.due("most by two moons", Check.of("g1 1 0 0;m0 0 9,10;m0 0 9,9,10;").most(0, 0, 0, 0), 5);
        Check.due("its pull by two", Check.of("g1 1 0 0;m0 0 9,10;m0 0 9,9,10;").most(0, 0, 0, 1), 2);
        Check.due("a pull below 0", Check.of("g1 1 0 0;m0 0 0,1;").most(0, 0, 0, 1), -8);
        Check.due("no moons, the step", Check.of("g1 1 0 0;").most(0, 0, 7, 0), 7);
        Check.due("no moons, the pull", Check.of("g1 1 0 0;").most(0, 0, 7, 1), 0);
        Check.due("no cell", g.most(0, 2, -1, 2), Check.UNKNOWN);
        Check.due("step -1", g.most(0, 0, -1, 0), Check.OUTSIDE);
        Check.due("step 900001", g.most(0, 0, LAST + 1, 0), Check.OUTSIDE);
        Check.due("what 2", g.most(0, 0, 0, 2), Check.OUTSIDE);
        Check.due("what -1", g.most(0, 0, 0, -1), Check.OUTSIDE);
    }

    private static void bell() {
        // Cell 1 0 stands 4, 6, 1, 6 above 0 0.
        TidedGround g = Check.of("g2 1 0 0;c1 0 5 1;m0 0 8,10,5,10;");
        Check.due("above 5", g.bell(0, 0, 5, 0, 0), 1);
        Check.due("above 5, how often", g.bell(0, 0, 5, 0, 1), 2);
        Check.due("above 5 from 2", g.bell(1, 0, 5, 2, 0), 1);
        Check.due("above 5 from 1", g.bell(1, 0, 5, 1, 0), 0);
        Check.due("above 6", g.bell(0, 0, 6, 0, 0), Check.NONE);
        Check.due("above 6, how often", g.bell(0, 0, 6, 0, 1), 0);
        Check.due("above 0, how often", g.bell(0, 0, 0, 3, 1), 4);
        Check.due("above 3 from 2", g.bell(0, 0, 3, 2, 0), 1);
        Check.due("from 900000", g.bell(0, 0, 5, LAST, 0), 1);
        Check.due("limit 999", g.bell(0, 0, 999, 0, 1), 0);
        Check.due("limit 1000", g.bell(0, 0, 1000, 0, 0), Check.OUTSIDE);
        Check.due("limit -1", g.bell(0, 0, -1, 0, 0), Check.OUTSIDE);
        Check.due("step -1", g.bell(0, 0, 0, -1, 0), Check.OUTSIDE);
        Check.due("step 900001", g.bell(0, 0, 0, LAST + 1, 0), Check.OUTSIDE);
        Check.due("what 2", g.bell(0, 0, 0, 0, 2), Check.OUTSIDE);
        Check.due("what -1", g.bell(0, 0, 0, 0, -1), Check.OUTSIDE);
        Check.due("no cell", g.bell(0, 1, 1000, 0, 0), Check.UNKNOWN);
        Check.due("alone", Check.of("g1 1 0 9;m0 0 0,18;").bell(0, 0, 0, 0, 0), Check.NONE);
    }

    private static void breaks() {
        // Cell 1 0 stands 4, 6, 1, 6 above the others.
        TidedGround g = Check.of("g3 1 0 0;c1 0 5 1;m0 0 8,10,5,10;h2 0 5;h0 0 3;h1 0 6;");
        Check.due("from 0", g.breaks(0, 0), 0);
        Check.due("from 0, whose", g.breaks(0, 1), 1);
        Check.due("from 1", g.breaks(1, 0), 1);
        Check.due("from 1, the least", g.breaks(1, 1), 0);
        Check.due("from 2", g.breaks(2, 0), 3);
        Check.due("from 900000", g.breaks(LAST, 0), LAST);
        g.prop(1, 1);
        Check.due("with a prop", g.breaks(0, 0), 1);
        g.prop(0, 1);
        Check.due("with two props", g.breaks(0, 1), 1);
        g.prop(1, 3);
        Check.due("with all props", g.breaks(0, 0), Check.NONE);
        Check.due("with all props, whose", g.breaks(0, 1), Check.NONE);
        Check.due("step -1", g.breaks(-1, 0), Check.OUTSIDE);
        Check.due("step 900001", g.breaks(LAST + 1, 0), Check.OUTSIDE);
        Check.due("what 2", g.breaks(0, 2), Check.OUTSIDE);
        Check.due("what -1", g.breaks(0, -1), Check.OUTSIDE);
        Check.due("no houses", Check.of("g2 1 0 0;c1 0 9 0;").breaks(5, 1), Check.NONE);
    }

    private static void props() {
        // Leans of 50 with hinges 40, 29, 50, 49: needs of 10, 21, 0, 1.
        TidedGround g = Check.of("g4 1 0 0;c1 0 50 0;c3 0 50 0;h0 0 40;h1 0 29;h2 0 50;h3 0 49;");
        Check.due("props(1)", g.props(1), 32);
        Check.due("props(2)", g.props(2), 5 + 11 + 1);
        Check.due("props(10)", g.props(10), 1 + 3 + 1);
        Check.due("props(20)", g.props(20), 1 + 2 + 1);
        Check.due("props(7)", g.props(7), 2 + 3 + 1);
        Check.due("props(0)", g.props(0), Check.OUTSIDE);
        Check.due("props(21)", g.props(21), Check.OUTSIDE);
        Check.due("props(-1)", g.props(-1), Check.OUTSIDE);
        g.prop(0, 10);
        Check.due("by no props that are there", g.props(1), 32);
        Check.due("no houses", Check.of("g1 1 0 0;").props(5), 0);
    }
}
