/** Promises 11 to 17: pass, roll, steep, load, prop, shift, drift. */
public final class DoneTest {
    public static void main(String[] args) {
        pass();
        roll();
        rollOverCracks();
        rollAtTheEnd();
        steep();
        load();
        prop();
        shift();
        drift();
        driftLoads();
        Check.end();
    }

    private static void passTo(TidedGround g, int step) {
        while (g.told(8) < step) {
            g.pass(Math.min(9999, step - g.told(8)));
        }
    }

    private static void pass() {
        TidedGround g = Check.of(Check.SMALL);
        Check.due("pass(0)", g.pass(0), Check.OUTSIDE);
        Check.due("pass(-1)", g.pass(-1), Check.OUTSIDE);
        Check.due("pass(10000)", g.pass(10000), Check.OUTSIDE);
        Check.due("pass(1)", g.pass(1), 1);
        Check.due("pass(9999)", g.pass(9999), 10000);
        passTo(g, 899999);
        Check.due("pass(2) at 899999", g.pass(2), Check.FULL);
        Check.due("the step is as it was", g.told(8), 899999);
        Check.due("pass(10000) at 899999", g.pass(10000), Check.OUTSIDE);
        Check.due("pass(1) at 899999", g.pass(1), 900000);
        Check.due("pass(1) at 900000", g.pass(1), Check.FULL);
        Check.due("the cart stays", g.told(10), 0);
        Check.due("pass without cells", new TidedGround().pass(9999), 9999);
    }

    private static void roll() {
        // Heights of 0 0 and 1 0: 0 and 7 at even steps, 0 and 3 at odd ones.
        TidedGround g = Check.of("g2 2 0 0;c1 0 5 2;m0 0 10,8;");
        Check.due("roll(-1)", g.roll(-1), Check.OUTSIDE);
        Check.due("roll(5)", g.roll(5), Check.OUTSIDE);
        Check.due("north of row 0", g.roll(1), Check.NOT);
        Check.due("west of column 0", g.roll(4), Check.NOT);
        Check.due("nothing has passed", g.told(8), 0);
        Check.due("staying", g.roll(0), 0);
        Check.due("a step has passed", g.told(8), 1);
        Check.due("the slope is that of the step to come", g.roll(2), 7);
        Check.due("at 1 0", g.told(10), 10);
        Check.due("pushed 7", g.told(11), 7);
        Check.due("east of the last column", g.roll(2), Check.NOT);
        Check.due("downhill", g.roll(3), 0);
        Check.due("at 1 1", g.told(10), 11);
        Check.due("south of the last row", g.roll(3), Check.NOT);
        g.steep(6);
        Check.due("steeper than 6 at step 4", g.roll(1), Check.NOT);
        g.steep(7);
        Check.due("as steep as may be", g.roll(1), 7);
        Check.due("pushed 14", g.told(11), 14);
        g.steep(0);
        Check.due("downhill by no steepness", g.roll(4), 0);
        Check.due("at 0 0", g.told(10), 0);
        Check.due("level to the south", g.roll(3), 0);
        Check.due("at 0 1", g.told(10), 1);
        Check.due("steps so far", g.told(8), 6);
        Check.due("one cell: staying", Check.of("g1 1 0 0;").roll(0), 0);
        Check.due("one cell: no way out", Check.of("g1 1 0 0;").roll(2), Check.NOT);
        TidedGround column = Check.of("g1 3 0 0;");
        column.roll(3);
        column.roll(3);
        Check.due("down a column", column.told(10), 2);
        Check.due("no cells", new TidedGround().roll(0), Check.NOT);
        Check.due("no cells, no way", new TidedGround().roll(9), Check.OUTSIDE);
    }

    private static void rollOverCracks() {
        // Pull is 1 at odd steps, 0 at even ones: cracks with limit 30 are open at odd steps.
        TidedGround g = Check.of("g2 2 0 0;m0 0 9,10;k0 0 0 30;k1 0 1 30;");
        Check.due("east over the crack at 1", g.roll(2), Check.NOT);
        Check.due("south beside the crack at 1", g.roll(3), 0);
        Check.due("north at 2", g.roll(1), 0);
        Check.due("stay at 3", g.roll(0), 0);
        Check.due("east over the crack at 4", g.roll(2), 0);
        Check.due("back west at 5", g.roll(4), Check.NOT);
        Check.due("south at 5", g.roll(3), Check.NOT);
        Check.due("stay at 5", g.roll(0), 0);
        Check.due("south at 6", g.roll(3), 0);
        Check.due("north at 7", g.roll(1), Check.NOT);
        Check.due("west at 7, no crack there", g.roll(4), 0);
        Check.due("at 0 1", g.told(10), 1);
        TidedGround own = Check.of("g2 1 0 0;m1 0 9,10;k0 0 0 30;");
        Check.due("the pull is that at the crack's own cell", own.crack(0, 1), 1);
        Check.due("east at 1", own.roll(2), Check.NOT);
        own.pass(1);
        Check.due("east at 2", own.roll(2), 0);
        Check.due("west at 3 by the pull at 0 0", own.roll(4), Check.NOT);
        own.pass(1);
        Check.due("west at 4", own.roll(4), 0);
    }

    private static void rollAtTheEnd() {
        TidedGround g = Check.of("g2 1 0 0;c1 0 50 0;");
        passTo(g, 899999);
        Check.due("roll at 899999", g.roll(0), 0);
        Check.due("roll at 900000", g.roll(0), Check.FULL);
        Check.due("roll at 900000 that may not be", g.roll(2), Check.NOT);
        Check.due("roll(5) at 900000", g.roll(5), Check.OUTSIDE);
        Check.due("the step", g.told(8), 900000);
    }

    private static void steep() {
        TidedGround g = new TidedGround();
        Check.due("steep(0)", g.steep(0), 20);
        Check.due("steep(99)", g.steep(99), 0);
        Check.due("steep(100)", g.steep(100), Check.OUTSIDE);
        Check.due("steep(-1)", g.steep(-1), Check.OUTSIDE);
        Check.due("steep(5)", g.steep(5), 99);
        Check.due("told(12)", g.told(12), 5);
    }

    private static void load() {
        TidedGround g = Check.of("g2 2 10 5;m0 0 10,9;");
        Check.due("load 90", g.load(1, 0, 90), 0);
        Check.due("load 91", g.load(1, 0, 91), Check.OUTSIDE);
        Check.due("load -1", g.load(1, 0, -1), Check.OUTSIDE);
        Check.due("load 9", g.load(1, 0, 9), 90);
        Check.due("a load of 9 makes nothing stiff", g.height(1, 0, 0), 15);
        Check.due("load 10", g.load(1, 0, 10), 9);
        Check.due("a load of 10", g.height(1, 0, 0), 14);
        Check.due("load 0", g.load(1, 0, 0), 10);
        Check.due("no load", g.cell(1, 0, 2), 0);
        Check.due("another cell", g.cell(0, 1, 2), 0);
        Check.due("load(2, 0)", g.load(2, 0, 91), Check.UNKNOWN);
        Check.due("load(0, 2)", g.load(0, 2, 0), Check.UNKNOWN);
        Check.due("load(-1, 0)", g.load(-1, 0, 0), Check.UNKNOWN);
    }

    private static void prop() {
        TidedGround g = Check.of("g2 1 10 5;h0 0 5;h1 0 6;");
        Check.due("prop 999", g.prop(1, 999), 0);
        Check.due("prop 1000", g.prop(1, 1000), Check.OUTSIDE);
        Check.due("prop -1", g.prop(1, -1), Check.OUTSIDE);
        Check.due("prop 0", g.prop(1, 0), 999);
        Check.due("prop 3", g.prop(1, 3), 0);
        Check.due("the other house", g.house(0, 2), 0);
        Check.due("prop(2)", g.prop(2, 1000), Check.UNKNOWN);
        Check.due("prop(-1)", g.prop(-1, 0), Check.UNKNOWN);
    }

    private static void shift() {
        TidedGround g = Check.of("g2 1 0 1;m0 0 9,10,11,12,13,14,15;m0 0 9,9;");
        Check.due("shift 3", g.shift(0, 3), 0);
        Check.due("shift 0", g.shift(0, 0), 3);
        Check.due("shift 6", g.shift(0, 6), 0);
        Check.due("pull by 6", g.cell(0, 0, 4), 6);
        Check.due("shift 7", g.shift(0, 7), 6);
        Check.due("7 is 0 of 7", g.moon(0, 3), 0);
        Check.due("shift 999", g.shift(0, 999), 0);
        Check.due("999 is 5 of 7", g.moon(0, 3), 5);
        Check.due("shift 1000", g.shift(0, 1000), Check.OUTSIDE);
        Check.due("shift -1", g.shift(0, -1), Check.OUTSIDE);
        Check.due("it is as it was", g.moon(0, 3), 5);
        Check.due("the other moon", g.moon(1, 3), 0);
        Check.due("shift(2)", g.shift(2, 1000), Check.UNKNOWN);
        Check.due("shift(-1)", g.shift(-1, 0), Check.UNKNOWN);
    }

    private static void drift() {
        TidedGround g = Check.of("g1 1 0 0;");
        Check.due("drift(0)", g.drift(0), Check.OUTSIDE);
        Check.due("drift(100)", g.drift(100), Check.OUTSIDE);
        Check.due("drift(-1)", g.drift(-1), Check.OUTSIDE);
        Check.due("no seed was drawn", g.seed(0), 0);
        Check.due("drift(1)", g.drift(1), 0);
        // Drawn from 0: 12345, then 1406932606, whose 21468 leaves 0 by 12, so a cell and a load are drawn too.
        Check.due("the seed by four draws", g.seed(0), next(next(1406932606)));
        Check.due("the load by the fourth draw", g.cell(0, 0, 2), next(next(1406932606)) / 65536 % 30);
        Check.due("drift(99)", g.drift(99), 0);
        Check.due("a hundred steps have passed", g.told(8), 100);
        Check.due("no cells", new TidedGround().drift(1), Check.NOT);
        Check.due("no cells, no steps", new TidedGround().drift(0), Check.OUTSIDE);
        passTo(g, 899000);
        Check.due("drift at 899000", g.drift(1), 0);
        Check.due("drift at 899001", g.drift(1), Check.FULL);
        Check.due("drift(0) at 899001", g.drift(0), Check.OUTSIDE);
    }

    private static int next(int seed) {
        return (int) (((long) seed * 1103515245L + 12345L) % 2147483648L);
    }

    /** Each drift of one step against the draws, told here once more, on flat ground. */
    private static void driftLoads() {
        TidedGround g = Check.of("g3 2 10 0;");
        int seed = 0;
        int x = 0;
        int y = 0;
        int[] load = new int[6];
        int more = 0;
        for (int i = 0; i < 300; i++) {
            seed = next(seed);
            int way = seed / 65536 % 5;
            int nx = x + (way == 2 ? 1 : way == 4 ? -1 : 0);
            int ny = y + (way == 3 ? 1 : way == 1 ? -1 : 0);
            if (nx >= 0 && nx < 3 && ny >= 0 && ny < 2) {
                x = nx;
                y = ny;
            }
            seed = next(seed);
            if (seed / 65536 % 12 == 0) {
                seed = next(seed);
                int c = seed / 65536 % 6;
                seed = next(seed);
                load[c] = Math.min(90, load[c] + seed / 65536 % 30);
                more++;
                Check.due("load of cell " + c + " at " + i, g.drift(1) * 1000 + g.cell(c % 3, c / 3, 2), (10 * x + y) * 1000 + load[c]);
            } else {
                Check.due("drift " + i, g.drift(1), 10 * x + y);
            }
        }
        Check.due("loads were drawn", more > 10 ? 1 : 0, 1);
        int full = 0;
        for (int c = 0; c < 6; c++) {
            Check.due("load of " + c, g.cell(c % 3, c / 3, 2), load[c]);
            full += load[c] == 90 ? 1 : 0;
        }
        Check.due("the seed after all", g.seed(0), seed);
        // Uphill the cart is pushed by draws too, or stays.
        TidedGround hill = Check.of("g2 1 0 0;c1 0 5 0;");
        hill.seed(7);
        hill.drift(99);
        int up = hill.told(11) / 5;
        Check.due("pushed by fives", hill.told(11) % 5, 0);
        Check.due("pushed at all", up > 0 ? 1 : 0, 1);
        // Shut at even steps alone: by draws too, the cart comes east at an even step.
        TidedGround crack = Check.of("g2 1 0 0;m0 0 9,10;k0 0 0 30;");
        for (int i = 1; i < 200; i++) {
            int was = crack.told(10);
            if (crack.drift(1) != was) {
                Check.due("over the crack at an odd step", i % 2, 0);
                more++;
            }
        }
        Check.due("over the crack at all", more > 20 ? 1 : 0, 1);
        TidedGround wall = Check.of("g2 1 0 0;c1 0 21 0;");
        wall.seed(7);
        Check.due("no way up a wall", wall.drift(99), 0);
        Check.due("steps before a wall", wall.told(8), 99);
    }
}
