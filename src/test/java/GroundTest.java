/** Promises 5 to 10: told, cell, height, moon, house, crack. */
public final class GroundTest {
    public static void main(String[] args) {
        told();
        period();
        cell();
        height();
        moon();
        house();
        crack();
        Check.end();
    }

    private static void told() {
        TidedGround g = Check.of("g4 3 10 2;m1 0 10,12,8;h1 0 6;h2 0 6;k0 0 0 31;k0 0 1 31;k1 0 1 31;w0 0 9;w2 0 3;w1 1 0;w3 2 1;d1 2;d1 2;");
        int[] first = {4, 3, 1, 2, 3, 4, 2, 0, 0, 3, 0, 0, 20, 0, 0};
        for (int what = 0; what < first.length; what++) {
            Check.due("told(" + what + ")", g.told(what), first[what]);
        }
        Check.due("told(-1)", g.told(-1), Check.OUTSIDE);
        Check.due("told(15)", g.told(15), Check.OUTSIDE);
        Check.feed(g, "g1");
        g.pass(11);
        g.steep(99);
        g.see(0, 0, 0, 1);
        g.see(0, 0, 0, 1);
        g.write(0);
        g.write(0);
        g.write(0);
        Check.due("told(7) of letters", g.told(7), 2);
        Check.due("told(8) of steps", g.told(8), 11);
        Check.due("told(12) of steep", g.told(12), 99);
        Check.due("told(13) of seen", g.told(13), 2);
        Check.due("told(14) of the book", g.told(14), 3);
        // Flat ground: the cart goes where it will, and nothing is pushed.
        TidedGround flat = Check.of("g3 3 10 0;");
        flat.roll(2);
        flat.roll(2);
        flat.roll(3);
        Check.due("told(10) at 2 1", flat.told(10), 21);
        Check.due("told(11) on flat ground", flat.told(11), 0);
        TidedGround hill = Check.of("g3 1 0 0;c1 0 7 0;c2 0 12 0;");
        hill.roll(2);
        hill.roll(2);
        hill.roll(4);
        Check.due("told(10) on the hill", hill.told(10), 10);
        Check.due("told(11) on the hill", hill.told(11), 12);
    }

    private static void period() {
        Check.due("period of 4 and 6", Check.of("g1 1 1 1;m0 0 1,2,3,4;m0 0 1,2,3,4,5,6;").told(9), 12);
        Check.due("period of 7, 8, 9", Check.of("g1 1 1 1;m0 0 1,2,3,4,5,6,7;m0 0 1,2,3,4,5,6,7,8;m0 0 1,2,3,4,5,6,7,8,9;").told(9), 504);
        Check.due("period of 3, 3, 9", Check.of("g1 1 1 1;m0 0 1,2,3;m0 0 1,2,3;m0 0 1,2,3,4,5,6,7,8,9;").told(9), 9);
        // By where the moons stand, not by what they pull.
        Check.due("period of a row of like numbers", Check.of("g1 1 1 1;m0 0 9,9,9,9;").told(9), 4);
        Check.due("period without moons", Check.of("g1 1 1 1;").told(9), 1);
    }

    private static void cell() {
        TidedGround g = Check.of("g3 2 10 4;c1 0 30 2;m1 3 10,12,8,9;");
        Check.due("base", g.cell(0, 0, 0), 10);
        Check.due("base told by c", g.cell(1, 0, 0), 30);
        Check.due("softness", g.cell(0, 0, 1), 4);
        Check.due("softness told by c", g.cell(1, 0, 1), 2);
        Check.due("load", g.cell(0, 0, 2), 0);
        Check.due("stiff", g.cell(0, 0, 3), 4);
        // The row is 1, 3, -1, 0; a cell is X and three times Y ahead of cell 0 0.
        Check.due("pull 0 0", g.cell(0, 0, 4), 1);
        Check.due("pull 1 0", g.cell(1, 0, 4), 3);
        Check.due("pull 2 0", g.cell(2, 0, 4), -1);
        Check.due("pull 0 1", g.cell(0, 1, 4), 0);
        Check.due("pull 1 1", g.cell(1, 1, 4), 1);
        Check.due("pull 2 1", g.cell(2, 1, 4), 3);
        Check.due("height 0 0", g.cell(0, 0, 5), 14);
        Check.due("height 1 0", g.cell(1, 0, 5), 36);
        Check.due("height 2 0", g.cell(2, 0, 5), 6);
        Check.due("height 0 1", g.cell(0, 1, 5), 10);
        Check.due("height 1 1", g.cell(1, 1, 5), 14);
        Check.due("height 2 1", g.cell(2, 1, 5), 22);
        Check.due("lean 0 0, to the east", g.cell(0, 0, 6), 22);
        Check.due("lean 1 0, to the east", g.cell(1, 0, 6), 30);
        Check.due("lean 0 1", g.cell(0, 1, 6), 4);
        Check.due("lean 2 1, to the north", g.cell(2, 1, 6), 16);
        Check.due("lean 1 1, to the north", g.cell(1, 1, 6), 22);
        g.pass(1);
        Check.due("pull a step on", g.cell(0, 0, 4), 3);
        Check.due("height a step on", g.cell(0, 0, 5), 22);
        g.load(0, 0, 19);
        Check.due("load 19", g.cell(0, 0, 2), 19);
        Check.due("stiff by 19", g.cell(0, 0, 3), 3);
        Check.due("softness by 19", g.cell(0, 0, 1), 4);
        Check.due("height by 19", g.cell(0, 0, 5), 19);
        g.load(0, 0, 90);
        Check.due("stiff by 90", g.cell(0, 0, 3), 0);
        Check.due("height by 90", g.cell(0, 0, 5), 10);
        Check.due("lean alone", Check.of("g1 1 50 9;m0 0 0,18;").cell(0, 0, 6), 0);
        Check.due("cell(-1, 0)", g.cell(-1, 0, 0), Check.UNKNOWN);
        Check.due("cell(3, 0)", g.cell(3, 0, 0), Check.UNKNOWN);
        Check.due("cell(0, -1)", g.cell(0, -1, 0), Check.UNKNOWN);
        Check.due("cell(0, 2)", g.cell(0, 2, 0), Check.UNKNOWN);
        Check.due("cell(0, 2, 7)", g.cell(0, 2, 7), Check.UNKNOWN);
        Check.due("cell(0, 0, -1)", g.cell(0, 0, -1), Check.OUTSIDE);
        Check.due("cell(0, 0, 7)", g.cell(0, 0, 7), Check.OUTSIDE);
        Check.due("cell far off", g.cell(Integer.MIN_VALUE, Integer.MAX_VALUE, 0), Check.UNKNOWN);
    }

    private static void height() {
        TidedGround g = Check.of(Check.SMALL);
        int[] cell00 = {12, 20, 8, 16, 16, 12};
        for (int t = 0; t < 12; t++) {
            Check.due("height(0, 0, " + t + ")", g.height(0, 0, t), cell00[t % 6]);
        }
        // 999999 leaves 0 by 3 and 1 by 2: parts 1 and 2.
        Check.due("height(0, 0, 999999)", g.height(0, 0, 999999), 16);
        Check.due("height of hard ground", g.height(2, 1, 5), 5);
        g.pass(4);
        Check.due("height(0, 0, 0) at step 4", g.height(0, 0, 0), 12);
        g.shift(0, 2);
        Check.due("height(0, 0, 0) by a shift of 2", g.height(0, 0, 0), 8);
        Check.due("height(0, 0, -1)", g.height(0, 0, -1), Check.OUTSIDE);
        Check.due("height(0, 0, 1000000)", g.height(0, 0, 1000000), Check.OUTSIDE);
        Check.due("height(3, 0, -1)", g.height(3, 0, -1), Check.UNKNOWN);
        Check.due("height(0, 2, 0)", g.height(0, 2, 0), Check.UNKNOWN);
        Check.due("height below 0", Check.of("g1 1 0 9;m0 0 0,0;m0 0 0,0;m0 0 0,0;").height(0, 0, 7), -243);
    }

    private static void moon() {
        TidedGround g = Check.of("g2 2 10 2;m1 0 10,12,8;m7 8 9,0,18,5;");
        Check.due("N of 0", g.moon(0, 0), 3);
        Check.due("N of 1", g.moon(1, 0), 4);
        Check.due("U of 1", g.moon(1, 1), 7);
        Check.due("V of 1", g.moon(1, 2), 8);
        Check.due("U of 0", g.moon(0, 1), 1);
        Check.due("shift of 1", g.moon(1, 3), 0);
        Check.due("part of 1", g.moon(1, 4), 0);
        g.pass(1);
        Check.due("part of 1 a step on", g.moon(1, 4), -9);
        g.shift(1, 5);
        Check.due("shift 5 of 4", g.moon(1, 3), 1);
        Check.due("part of 1 by a shift", g.moon(1, 4), 9);
        Check.due("part of 0 is by its own shift", g.moon(0, 4), 3);
        Check.due("moon(2, 0)", g.moon(2, 0), Check.UNKNOWN);
        Check.due("moon(-1, 9)", g.moon(-1, 9), Check.UNKNOWN);
        Check.due("moon(0, 5)", g.moon(0, 5), Check.OUTSIDE);
        Check.due("moon(0, -1)", g.moon(0, -1), Check.OUTSIDE);
    }

    private static void house() {
        // Cell 1 0 stands 8 above 0 0 at even steps, 2 below it at odd ones.
        TidedGround g = Check.of("g2 1 10 0;c1 0 13 5;m0 0 10,8;h1 0 7;h0 0 8;");
        Check.due("cell of 0", g.house(0, 0), 10);
        Check.due("cell of 1", g.house(1, 0), 0);
        Check.due("hinge of 0", g.house(0, 1), 7);
        Check.due("props of 0", g.house(0, 2), 0);
        Check.due("house 0 breaks", g.house(0, 3), 1);
        Check.due("house 1 holds at its hinge", g.house(1, 3), 0);
        Check.due("need of 0", g.house(0, 4), 1);
        Check.due("need of 1", g.house(1, 4), 0);
        g.prop(0, 1);
        Check.due("props of 0 are 1", g.house(0, 2), 1);
        Check.due("house 0 holds by a prop", g.house(0, 3), 0);
        Check.due("need of 0 is by no props", g.house(0, 4), 1);
        g.prop(0, 0);
        g.pass(1);
        Check.due("house 0 holds at step 1", g.house(0, 3), 0);
        Check.due("need is over all steps", g.house(0, 4), 1);
        g.load(1, 0, 40);
        Check.due("need under load", g.house(0, 4), 0);
        Check.due("house(2, 0)", g.house(2, 0), Check.UNKNOWN);
        Check.due("house(-1, 5)", g.house(-1, 5), Check.UNKNOWN);
        Check.due("house(0, 5)", g.house(0, 5), Check.OUTSIDE);
        Check.due("house(0, -1)", g.house(0, -1), Check.OUTSIDE);
        Check.due("need of a low cell", Check.of("g2 2 0 0;c0 1 60 0;h0 0 50;").house(0, 4), 10);
        Check.due("pair of 2 1", Check.of("g3 2 0 0;h2 1 0;").house(0, 0), 21);
    }

    private static void crack() {
        // The row is -9, 0, 3; the crack lies at 1 0, one step ahead of cell 0 0, and opens above 2.
        TidedGround g = Check.of("g2 2 0 5;m1 0 0,9,12;k1 0 1 32;k0 0 0 33;k0 1 0 0;");
        Check.due("crack 0 at 0", g.crack(0, 0), 0);
        Check.due("crack 0 at 1", g.crack(0, 1), 1);
        Check.due("crack 0 at 2", g.crack(0, 2), 0);
        Check.due("crack 0 at 4", g.crack(0, 4), 1);
        Check.due("crack 1 needs more than 3", g.crack(1, 2), 0);
        Check.due("crack 2 is open at 0", g.crack(2, 0), 1);
        g.load(1, 0, 90);
        Check.due("pull opens it, not height", g.crack(0, 1), 1);
        Check.due("crack at 999999", g.crack(0, 999999), 0);
        Check.due("crack at 999997", g.crack(0, 999997), 1);
        Check.due("crack(0, -1)", g.crack(0, -1), Check.OUTSIDE);
        Check.due("crack(0, 1000000)", g.crack(0, 1000000), Check.OUTSIDE);
        Check.due("crack(3, -1)", g.crack(3, -1), Check.UNKNOWN);
        Check.due("crack(-1, 0)", g.crack(-1, 0), Check.UNKNOWN);
        Check.due("crack by a shift", shifted(g), 1);
        Check.due("a crack without moons, limit 30", Check.of("g2 1 0 0;k0 0 0 30;").crack(0, 0), 0);
        Check.due("a crack without moons, limit 29", Check.of("g2 1 0 0;k0 0 0 29;").crack(0, 0), 1);
    }

    private static int shifted(TidedGround g) {
        g.shift(0, 1);
        return g.crack(0, 0);
    }
}
