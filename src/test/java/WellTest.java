/** Promises 27 to 29: water, whose, stays. */
public final class WellTest {
    private static final int LAST = 900000;

    public static void main(String[] args) {
        oneWell();
        severalWells();
        belowNothing();
        waterRefused();
        whose();
        stays();
        Check.end();
    }

    private static void stands(TidedGround g, int v, int step, int above, int below, int wet) {
        Check.due("water(" + v + ", " + step + ", 0)", g.water(v, step, 0), above);
        Check.due("water(" + v + ", " + step + ", 1)", g.water(v, step, 1), below);
        Check.due("water(" + v + ", " + step + ", 2)", g.water(v, step, 2), wet);
    }

    private static void oneWell() {
        TidedGround g = Check.of("g1 1 50 2;m0 0 9,12;w0 0 20;");
        stands(g, 0, 0, 30, 1, 0);
        stands(g, 7, 0, 37, 1, 1);
        stands(g, 7, 1, 43, 1, 1);
        stands(g, 9999, 0, 10029, 1, 1);
        stands(g, 7, LAST, 37, 1, 1);
    }

    private static void severalWells() {
        // Floors 10, 4, 4, 20, 7.
        TidedGround g = Check.of("g5 1 50 0;w0 0 40;w1 0 46;w2 0 46;w3 0 30;w4 0 43;");
        stands(g, 0, 0, 4, 1, 0);
        stands(g, 1, 0, 9, 2, 6);
        stands(g, 2, 0, 5, 1, 6);
        stands(g, 6, 0, 7, 1, 6);
        stands(g, 7, 0, 22, 3, 22);
        stands(g, 15, 0, 10, 1, 22);
        stands(g, 16, 0, 41, 4, 23);
        stands(g, 17, 0, 21, 2, 23);
        stands(g, 55, 0, 20, 1, 23);
        stands(g, 56, 0, 101, 5, 31);
        stands(g, 60, 0, 21, 1, 31);
        stands(g, 9999, 0, 10044, 5, 31);
    }

    private static void belowNothing() {
        // Floors -90 and -99.
        TidedGround g = Check.of("g2 1 0 0;w0 0 90;w1 0 99;");
        stands(g, 0, 0, -99, 1, 0);
        stands(g, 9, 0, -90, 1, 2);
        stands(g, 10, 0, -179, 2, 3);
        stands(g, 189, 0, 0, 1, 3);
        stands(g, 190, 0, 1, 2, 3);
        // Softness counts: heights of 0 and 27 at step 0 of a pull of 3.
        TidedGround h = Check.of("g2 1 0 0;c1 0 0 9;m0 0 12,9;w0 0 0;w1 0 0;");
        stands(h, 1, 0, 1, 1, 1);
        stands(h, 1, 1, 1, 2, 3);
    }

    private static void waterRefused() {
        TidedGround g = Check.of("g1 1 50 2;w0 0 20;");
        Check.due("water(-1)", g.water(-1, 0, 0), Check.OUTSIDE);
        Check.due("water(10000)", g.water(10000, 0, 0), Check.OUTSIDE);
        Check.due("water at -1", g.water(0, -1, 0), Check.OUTSIDE);
        Check.due("water at 900001", g.water(0, LAST + 1, 0), Check.OUTSIDE);
        Check.due("water what -1", g.water(0, 0, -1), Check.OUTSIDE);
        Check.due("water what 3", g.water(0, 0, 3), Check.OUTSIDE);
        TidedGround dry = Check.of("g1 1 50 2;");
        Check.due("no wells", dry.water(0, 0, 0), Check.NOT);
        Check.due("no wells, too much", dry.water(10000, 0, 0), Check.OUTSIDE);
        Check.due("no wells, what 3", dry.water(0, 0, 3), Check.OUTSIDE);
    }

    private static void whose() {
        // Heights 5, 6, 7 and -3 at even steps; 5, 6, 7 and 3 at odd ones.
        TidedGround g = Check.of("g2 2 5 0;c1 0 6 0;c0 1 7 0;c1 1 0 3;m0 0 8,10;d105 106;d97 97;d0 300;d107 107;");
        Check.due("5 to 6", g.whose(0, 0), 3);
        Check.due("-3", g.whose(1, 0), 8);
        Check.due("-3 at 1", g.whose(1, 1), 0);
        Check.due("all", g.whose(2, 0), 15);
        Check.due("7", g.whose(3, LAST), 4);
        Check.due("-3 at 900000", g.whose(1, LAST), 8);
        Check.due("deed 4", g.whose(4, -1), Check.UNKNOWN);
        Check.due("deed -1", g.whose(-1, 0), Check.UNKNOWN);
        Check.due("step -1", g.whose(0, -1), Check.OUTSIDE);
        Check.due("step 900001", g.whose(0, LAST + 1), Check.OUTSIDE);
        g.pass(1);
        Check.due("by the step told, not THE STEP", g.whose(1, 0), 8);
    }

    private static void stays() {
        TidedGround g = Check.of("g2 2 5 0;c1 0 6 0;c0 1 7 0;c1 1 0 3;m0 0 8,10;d105 106;d97 97;d97 103;d98 103;");
        Check.due("5 to 6", g.stays(0), 3);
        Check.due("-3 alone", g.stays(1), 0);
        Check.due("-3 to 3", g.stays(2), 8);
        Check.due("-2 to 3", g.stays(3), 0);
        Check.due("deed 4", g.stays(4), Check.UNKNOWN);
        Check.due("deed -1", g.stays(-1), Check.UNKNOWN);
        g.load(1, 1, 30);
        Check.due("0 by a load", g.stays(3), 8);
        // It is off once in 504 steps, at the last of them.
        TidedGround rare = Check.of("g1 1 3 1;m0 0 9,9,9,9,9,9,8;m0 0 9,9,9,9,9,9,9,8;m0 0 9,9,9,9,9,9,9,9,8;d101 103;d100 103;");
        Check.due("but once", rare.stays(0), 0);
        Check.due("always", rare.stays(1), 1);
    }
}
