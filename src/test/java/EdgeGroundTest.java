/** The edges that the document names, promises 5 to 10 and its row 2: told, cell, height, moon, house, crack. */
public final class EdgeGroundTest {
    public static void main(String[] args) {
        toldWithoutCells();
        toldOutside();
        toldOfPairs();
        toldAtBothEnds();
        periodOfAllRows();
        periodByShiftsAndSteps();
        cellsThatThereAreNot();
        whatOfACell();
        threeAtTheStep();
        leftOverByN();
        pullOfAllMoons();
        stiffIsZeroAtLeast();
        cutTowards0();
        heightsAtTheirEnds();
        leanOfOneAlone();
        leanWithoutSign();
        leanToEachSide();
        stepsOfHeight();
        moonsThatThereAreNot();
        partOfAMoon();
        housesThatThereAreNot();
        aboveHingeAndProps();
        needOverAllSteps();
        cracksThatThereAreNot();
        stepsOfACrack();
        openAboveItsLimit();
        Check.end();
    }

    private static void toldWithoutCells() {
        Edge.says("Promise 5 (told)", "9 PERIOD (1 without MOONS), 10 where the cart is (a PAIR; 0 without CELLS)");
        TidedGround g = new TidedGround();
        Edge.due("told(9) of a new object", g.told(9), 1);
        Edge.due("told(10) of a new object", g.told(10), 0);
        TidedGround still = Check.of("g2 2 0 0;");
        still.roll(3);
        Edge.due("told(9) without moons", still.told(9), 1);
        Edge.due("told(10) at 0 1", still.told(10), 1);
        still.ground();
        Edge.due("told(10) of an empty ground", still.told(10), 0);
    }

    private static void toldOutside() {
        Edge.says("Promise 5 (told)", "14 STEPS of THE BOOK. OUTSIDE.");
        TidedGround g = Check.of(Check.SMALL);
        Edge.due("told(0)", g.told(0), 3);
        Edge.due("told(14)", g.told(14), 0);
        Edge.outsideOf("told", 0, 14, g, v -> o -> o.told(v));
        Edge.outsideOf("told without cells", 0, 14, new TidedGround(), v -> o -> o.told(v));
    }

    private static void toldOfPairs() {
        Edge.says("Promise 5 (told), Terms", "A PAIR tells a CELL of two coordinates as 10 times X and Y.");
        TidedGround wide = Check.of("g6 4 0 0;");
        for (int i = 1; i <= 5; i++) {
            wide.roll(2);
            Edge.due("told(10) to the east", wide.told(10), 10 * i);
        }
        for (int i = 1; i <= 3; i++) {
            wide.roll(3);
            Edge.due("told(10) to the south", wide.told(10), 50 + i);
        }
        for (String size : new String[] {"g4 6", "g1 6"}) {
            TidedGround high = Check.of(size + " 0 0;h0 5 1;h0 1 1;");
            for (int i = 1; i <= 5; i++) {
                high.roll(3);
                Edge.due("told(10) to the south of " + size, high.told(10), i);
            }
            Edge.due("the house on 0 5 of " + size, high.house(0, 0), 5);
            Edge.due("the house on 0 1 of " + size, high.house(1, 0), 1);
            Edge.due("soonest from 0 to 5 of " + size, high.soonest(0, 5, 0), 5);
        }
        Edge.due("a row of six, its last cell", Check.of("g6 1 0 0;h5 0 1;").house(0, 0), 50);
        Edge.due("look in a column", Check.of("g1 6 0 0;c0 5 0 1;m0 0 9,10;").look(0), 5);
    }

    private static void toldAtBothEnds() {
        Edge.says("Promise 5 (told)",
            "0 W, 1 H, 2 MOONS, 3 HOUSES, 4 CRACKS, 5 WELLS, 6 DEEDS, 7 letters of THE TEXT, 8 THE STEP");
        TidedGround least = Check.of("g1 1 0 0;");
        int[] none = {1, 1, 0, 0, 0, 0, 0, 0, 0};
        TidedGround full = Check.of(Edge.FULLEST);
        int[] most = {6, 4, 3, 6, 6, 5, 4, 0, 0};
        for (int what = 0; what <= 8; what++) {
            Edge.due("told(" + what + ") of the least ground", least.told(what), none[what]);
            Edge.due("told(" + what + ") of the fullest", full.told(what), most[what]);
        }
        Edge.due("told(8) at the last step", Edge.late("g1 1 0 0;", Edge.LAST_STEP).told(8), Edge.LAST_STEP);
        Edge.says("Promise 5 (told)", "12 STEEP, 13 what was SEEN, 14 STEPS of THE BOOK");
        TidedGround g = Check.of("g1 1 0 0;");
        g.steep(0);
        for (int i = 0; i < 12; i++) {
            g.see(0, 0, 0, 0);
        }
        for (int i = 0; i < 30; i++) {
            g.write(0);
        }
        Edge.due("told(12)", g.told(12), 0);
        Edge.due("told(13)", g.told(13), 12);
        Edge.due("told(14)", g.told(14), 30);
    }

    private static String rowOf(int n) {
        return "m0 0 9" + ",9".repeat(n - 1) + ";";
    }

    private static void periodOfAllRows() {
        Edge.says("Promise 5 (told), row 2", "PERIOD: the least number of steps behind which all MOONS stand as they stood");
        for (int a = 2; a <= 9; a++) {
            Edge.due("told(9) of " + a, Check.of("g1 1 0 0;" + rowOf(a)).told(9), a);
            for (int b = 2; b <= 9; b++) {
                for (int c = 2; c <= 9; c++) {
                    int least = 1;
                    while (least % a != 0 || least % b != 0 || least % c != 0) {
                        least++;
                    }
                    Edge.due("told(9) of " + a + " " + b + " " + c,
                        Check.of("g1 1 0 0;" + rowOf(a) + rowOf(b) + rowOf(c)).told(9), least);
                }
            }
        }
    }

    private static void periodByShiftsAndSteps() {
        Edge.says("Promise 5 (told), row 2", "(by SHIFTS, steps)");
        TidedGround g = Check.of("g1 1 0 5;m3 4 9,9,9,9;m0 0 8,10,8,10,8,10;");
        Edge.due("rows that repeat within themselves", g.told(9), 12);
        g.shift(0, 3);
        g.pass(5);
        g.load(0, 0, 90);
        Edge.due("at another step, by another shift", g.told(9), 12);
    }

    private static void cellsThatThereAreNot() {
        Edge.says("Promise 6 (cell), row 1", "CELLS X 0 .. W less 1, Y 0 .. H less 1");
        for (int[] size : new int[][] {{1, 1}, {6, 4}, {4, 6}, {6, 1}, {1, 6}}) {
            int w = size[0];
            int h = size[1];
            TidedGround g = Check.of("g" + w + " " + h + " 7 3;");
            Edge.due("the first cell", g.cell(0, 0, 0), 7);
            Edge.due("the last cell", g.cell(w - 1, h - 1, 0), 7);
            for (int off : new int[] {-1, Edge.LEAST, Edge.GREATEST}) {
                Edge.due("x " + off, g.cell(off, 0, 0), Check.UNKNOWN);
                Edge.due("y " + off, g.cell(0, off, 0), Check.UNKNOWN);
            }
            Edge.due("x " + w, g.cell(w, 0, 0), Check.UNKNOWN);
            Edge.due("y " + h, g.cell(0, h, 0), Check.UNKNOWN);
            Edge.due("x " + w + " of a what that is not", g.cell(w, 0, 7), Check.UNKNOWN);
            Edge.due("height at x " + w, g.height(w, 0, 0), Check.UNKNOWN);
            Edge.due("height at y " + h, g.height(0, h, 0), Check.UNKNOWN);
            Edge.due("height at y -1 and no step", g.height(0, -1, -1), Check.UNKNOWN);
        }
    }

    private static void whatOfACell() {
        Edge.says("Promise 6 (cell)", "what = 0 BASE, 1 SOFTNESS, 2 LOAD, 3 STIFF, 4 PULL, 5 HEIGHT, 6 LEAN");
        TidedGround g = Check.of("g2 1 40 9;c1 0 20 0;m0 0 12,0;");
        g.load(0, 0, 25);
        int[] want = {40, 9, 25, 7, 3, 61, 41};
        for (int what = 0; what <= 6; what++) {
            Edge.due("cell(0, 0, " + what + ")", g.cell(0, 0, what), want[what]);
        }
        Edge.outsideOf("cell", 0, 6, g, v -> o -> o.cell(0, 0, v));
    }

    private static void threeAtTheStep() {
        Edge.says("Promise 6 (cell)", "(the last three at THE STEP)");
        TidedGround g = Check.of("g2 1 40 2;c1 0 20 0;m0 0 12,0,9;");
        int[][] want = {{3, 46, 26}, {-9, 22, 2}, {0, 40, 20}};
        for (int t = 0; t < 7; t++) {
            for (int i = 0; i < 3; i++) {
                Edge.due("cell(0, 0, " + (4 + i) + ") at " + t, g.cell(0, 0, 4 + i), want[t % 3][i]);
            }
            g.pass(1);
        }
    }

    /** Each cell, step and shift of rows of all lengths, by the words of the document. */
    private static void leftOverByN() {
        Edge.says("Promise 7 (height), row 2",
            "the number of its ROW at t, SHIFT, U times X, V times Y together, left over by N");
        for (int n = 2; n <= 9; n++) {
            int[] row = new int[n];
            StringBuilder numbers = new StringBuilder();
            for (int i = 0; i < n; i++) {
                row[i] = i * 7 % 19 - 9;
                numbers.append(i == 0 ? "" : ",").append(row[i] + 9);
            }
            for (int[] uv : new int[][] {{0, 0}, {8, 8}, {1, 0}, {0, 1}, {7, 5}}) {
                TidedGround g = Check.of("g6 4 0 1;m" + uv[0] + " " + uv[1] + " " + numbers + ";");
                for (int shift : new int[] {0, 1, n - 1}) {
                    g.shift(0, shift);
                    for (int[] at : new int[][] {{0, 0}, {5, 3}, {5, 0}, {0, 3}, {1, 2}}) {
                        for (int t : new int[] {0, 1, n - 1, n, 899999, 900000, 999998, 999999}) {
                            int place = (t + shift + uv[0] * at[0] + uv[1] * at[1]) % n;
                            Edge.due("height of " + at[0] + " " + at[1] + " at " + t + ", shift " + shift + ", N " + n,
                                g.height(at[0], at[1], t), row[place]);
                        }
                    }
                }
            }
        }
    }

    private static void pullOfAllMoons() {
        Edge.says("Promise 6 (cell), row 2", "PULL at a CELL: PARTS of all MOONS together.");
        Edge.due("no moons", Check.of("g1 1 5 9;").cell(0, 0, 4), 0);
        Edge.due("one", Check.of("g1 1 5 9;m0 0 18,0;").cell(0, 0, 4), 9);
        Edge.due("three, the most", Check.of("g1 1 5 9;m0 0 18,0;m0 0 18,0;m0 0 18,0;").cell(0, 0, 4), 27);
        Edge.due("three, the least", Check.of("g1 1 5 9;m0 0 0,0;m0 0 0,0;m0 0 0,0;").cell(0, 0, 4), -27);
        Edge.due("three of different signs", Check.of("g1 1 5 9;m0 0 0,0;m0 0 13,0;m0 0 10,0;").cell(0, 0, 4), -4);
    }

    private static void stiffIsZeroAtLeast() {
        Edge.says("Promise 6 (cell), row 2", "STIFF: SOFTNESS less LOAD / 10, 0 at least (LOAD 0 at first)");
        for (int softness = 0; softness <= 9; softness++) {
            TidedGround g = Check.of("g1 1 50 " + softness + ";m0 0 10,10;");
            Edge.due("load at first", g.cell(0, 0, 2), 0);
            for (int tens = 0; tens <= 9; tens++) {
                int stiff = softness > tens ? softness - tens : 0;
                for (int load : new int[] {10 * tens, 10 * tens + 9}) {
                    if (load <= 90) {
                        g.load(0, 0, load);
                        Edge.due("stiff of " + softness + " under " + load, g.cell(0, 0, 3), stiff);
                        Edge.due("height of " + softness + " under " + load, g.cell(0, 0, 5), 50 + stiff);
                    }
                }
            }
        }
    }

    private static void cutTowards0() {
        Edge.says("Promise 6 (cell), Terms", "/ cuts towards 0");
        TidedGround g = Check.of("g1 1 50 9;m0 0 8,8;");
        int[][] loads = {{0, 9}, {1, 9}, {9, 9}, {10, 8}, {11, 8}, {19, 8}, {20, 7}, {79, 2}, {80, 1}, {89, 1}, {90, 0}};
        for (int[] load : loads) {
            g.load(0, 0, load[0]);
            Edge.due("stiff under " + load[0], g.cell(0, 0, 3), load[1]);
            Edge.due("height under " + load[0] + " by a pull of -1", g.cell(0, 0, 5), 50 - load[1]);
        }
    }

    private static void heightsAtTheirEnds() {
        Edge.says("Promise 7 (height), row 2", "HEIGHT: BASE and STIFF times PULL.");
        Edge.due("the greatest of all", Check.of("g1 1 99 9;m0 0 18,0;m0 0 18,0;m0 0 18,0;").height(0, 0, 0), 342);
        Edge.due("the least of all", Check.of("g1 1 0 9;m0 0 18,0;m0 0 18,0;m0 0 18,0;").height(0, 0, 1), -243);
        Edge.due("without softness", Check.of("g1 1 99 0;m0 0 18,0;").height(0, 0, 0), 99);
    }

    private static void leanOfOneAlone() {
        Edge.says("Promise 6 (cell), row 2", "(without sign; 0 alone)");
        TidedGround g = Check.of("g1 1 99 9;m0 0 18,0;h0 0 0;");
        for (int t = 0; t < 3; t++) {
            Edge.due("lean alone at " + t, g.cell(0, 0, 6), 0);
            Edge.due("a house alone at " + t, g.house(0, 3), 0);
            g.pass(1);
        }
        Edge.due("bell alone", g.bell(0, 0, 0, 0, 0), Check.NONE);
        Edge.due("need alone", g.house(0, 4), 0);
    }

    private static void leanWithoutSign() {
        Edge.says("Promise 6 (cell), row 2", "LEAN of a CELL: the greatest SLOPE, up or down, to a CELL beside it");
        TidedGround g = Check.of("g3 1 50 0;c0 0 20 0;c2 0 79 0;");
        Edge.due("up alone", g.cell(0, 0, 6), 30);
        Edge.due("down alone", g.cell(2, 0, 6), 29);
        Edge.due("more down than up", g.cell(1, 0, 6), 30);
        TidedGround h = Check.of("g3 1 50 0;c0 0 21 0;c2 0 80 0;");
        Edge.due("more up than down", h.cell(1, 0, 6), 30);
        TidedGround far = Check.of("g2 1 99 9;c1 0 0 9;m1 0 18,0;m1 0 18,0;m1 0 18,0;");
        Edge.due("the greatest of all, down", far.cell(0, 0, 6), 585);
        Edge.due("the greatest of all, up", far.cell(1, 0, 6), 585);
    }

    private static void leanToEachSide() {
        Edge.says("Promise 6 (cell), row 2", "BESIDE: north (Y less 1), east, south, west.");
        String[] sides = {"c1 0 61 0;", "c2 1 62 0;", "c1 2 63 0;", "c0 1 64 0;"};
        for (int i = 0; i < 4; i++) {
            Edge.due("lean to side " + i, Check.of("g3 3 50 0;" + sides[i]).cell(1, 1, 6), 11 + i);
        }
        Edge.due("corners are not beside", Check.of("g3 3 50 0;c0 0 99 0;c2 0 99 0;c0 2 99 0;c2 2 99 0;").cell(1, 1, 6), 0);
        TidedGround g = Check.of("g3 3 50 0;c2 0 99 0;c0 2 99 0;");
        Edge.due("the end of a row is not beside the next row's start", g.cell(0, 1, 6), 49);
        Edge.due("nor is the start beside the end of the row before", Check.of("g3 3 50 0;c2 0 99 0;").cell(0, 1, 6), 0);
        Edge.due("nor the end beside the start of the next row", Check.of("g3 3 50 0;c0 2 99 0;").cell(2, 1, 6), 0);
        Edge.due("nor the last row beside the first", Check.of("g3 3 50 0;c1 0 99 0;").cell(1, 2, 6), 0);
    }

    private static void stepsOfHeight() {
        Edge.says("Promise 7 (height)", "HEIGHT of a CELL at a step (0 .. 999999). UNKNOWN, OUTSIDE.");
        TidedGround g = Check.of("g1 1 50 1;m0 0 9,10,11,12,13,14,15;");
        Edge.due("at 0", g.height(0, 0, 0), 50);
        Edge.due("at 999998", g.height(0, 0, 999998), 50 + 999998 % 7);
        Edge.due("at 999999", g.height(0, 0, 999999), 50 + 999999 % 7);
        Edge.outsideOf("height", 0, Edge.LAST_TOLD, g, v -> o -> o.height(0, 0, v));
        g.shift(0, 6);
        Edge.due("at 999999 by the last shift", g.height(0, 0, 999999), 50 + (999999 + 6) % 7);
        Edge.due("at THE STEP 900000", Edge.waited(g, Edge.LAST_STEP).cell(0, 0, 5), 50 + (900000 + 6) % 7);
    }

    private static void moonsThatThereAreNot() {
        Edge.says("Promise 8 (moon)", "what = 0 N, 1 U, 2 V, 3 SHIFT, 4 its PART at CELL 0 0 at THE STEP. UNKNOWN, OUTSIDE.");
        TidedGround g = Check.of("g1 1 0 0;m0 8 0,18;m8 0 9,9,9,9,9,9,9,9,18;m1 2 9,10,11;");
        int[][] want = {{2, 0, 8, 0, -9}, {9, 8, 0, 0, 0}, {3, 1, 2, 0, 0}};
        for (int i = 0; i < 3; i++) {
            for (int what = 0; what <= 4; what++) {
                Edge.due("moon(" + i + ", " + what + ")", g.moon(i, what), want[i][what]);
            }
            int moon = i;
            Edge.outsideOf("moon " + i, 0, 4, g, v -> o -> o.moon(moon, v));
        }
        for (int off : new int[] {-1, 3, Edge.LEAST, Edge.GREATEST}) {
            Edge.due("moon " + off, g.moon(off, 0), Check.UNKNOWN);
            Edge.due("moon " + off + " of no what", g.moon(off, 5), Check.UNKNOWN);
        }
        Edge.due("moon 0 without moons", Check.of("g1 1 0 0;").moon(0, 0), Check.UNKNOWN);
        Edge.due("moon 1 of one", Check.of("g1 1 0 0;m0 0 9,9;").moon(1, 0), Check.UNKNOWN);
    }

    private static void partOfAMoon() {
        Edge.says("Promise 8 (moon)", "4 its PART at CELL 0 0 at THE STEP");
        TidedGround g = Edge.late("g2 2 0 9;m5 7 9,10,11,12,13,14,15;m0 0 18,0;", Edge.LAST_STEP);
        Edge.due("at 900000", g.moon(0, 4), 900000 % 7);
        Edge.due("the other at 900000", g.moon(1, 4), 9);
        g.shift(0, 6);
        g.load(0, 0, 90);
        Edge.due("by the last shift, under a load", g.moon(0, 4), (900000 + 6) % 7);
    }

    private static void housesThatThereAreNot() {
        Edge.says("Promise 9 (house)",
            "what = 0 its CELL (a PAIR), 1 HINGE, 2 PROPS, 3 whether it BREAKS at THE STEP (1, 0), 4 NEED. UNKNOWN, OUTSIDE.");
        TidedGround g = Check.of(Edge.FULLEST);
        g.prop(5, 999);
        Edge.due("cell of house 0", g.house(0, 0), 0);
        Edge.due("cell of house 5", g.house(5, 0), 53);
        Edge.due("hinge of house 5", g.house(5, 1), 4);
        Edge.due("props of house 5", g.house(5, 2), 999);
        Edge.due("house 5 holds", g.house(5, 3), 0);
        Edge.outsideOf("house", 0, 4, g, v -> o -> o.house(5, v));
        for (int off : new int[] {-1, 6, Edge.LEAST, Edge.GREATEST}) {
            Edge.due("house " + off, g.house(off, 0), Check.UNKNOWN);
            Edge.due("house " + off + " of no what", g.house(off, 5), Check.UNKNOWN);
        }
        Edge.due("house 0 without houses", Check.of("g1 1 0 0;").house(0, 0), Check.UNKNOWN);
    }

    private static void aboveHingeAndProps() {
        Edge.says("Promise 9 (house), row 2", "if LEAN of its CELL is above its HINGE and PROPS");
        // A lean of 99 between both cells.
        TidedGround g = Check.of("g2 1 99 0;c1 0 0 0;h0 0 99;h1 0 98;");
        Edge.due("as much as its hinge", g.house(0, 3), 0);
        Edge.due("one more than its hinge", g.house(1, 3), 1);
        g.prop(1, 1);
        Edge.due("as much as hinge and props", g.house(1, 3), 0);
        TidedGround none = Check.of("g2 1 99 0;c1 0 0 0;h0 0 0;");
        for (int props : new int[] {0, 98, 99, 100, 999}) {
            none.prop(0, props);
            Edge.due("by props of " + props, none.house(0, 3), props < 99 ? 1 : 0);
        }
    }

    private static void needOverAllSteps() {
        Edge.says("Promise 9 (house), row 3", "NEED of a HOUSE: the least PROP by which it never BREAKS.");
        // It leans by 40, by 43 but once in 504 steps, at the last of them.
        TidedGround g = Check.of("g2 1 50 0;c1 0 90 1;" + Edge.RARE_LIFT + "h0 0 40;h1 0 43;");
        Edge.due("need by the last step of a period", g.house(0, 4), 3);
        Edge.due("need of none", g.house(1, 4), 0);
        g.prop(0, 2);
        Edge.due("by one less it breaks", g.breaks(0, 0), 503);
        g.prop(0, 3);
        Edge.due("by its need it never does", g.breaks(0, 0), Check.NONE);
        Edge.due("props that are there change no need", g.house(0, 4), 3);
        Edge.due("the greatest need", Check.of("g2 1 99 9;c1 0 0 9;m1 0 18,0;m1 0 18,0;m1 0 18,0;h0 0 0;").house(0, 4), 585);
    }

    private static void cracksThatThereAreNot() {
        Edge.says("Promise 10 (crack)", "Whether a CRACK is open at a step (1, 0). UNKNOWN");
        TidedGround g = Check.of("g2 4 0 0;k0 0 0 60;k0 1 0 60;k0 2 0 60;k0 3 0 60;k0 0 1 60;k1 0 1 0;");
        Edge.due("crack 0", g.crack(0, 0), 0);
        Edge.due("crack 5", g.crack(5, 0), 1);
        for (int off : new int[] {-1, 6, Edge.LEAST, Edge.GREATEST}) {
            Edge.due("crack " + off, g.crack(off, 0), Check.UNKNOWN);
            Edge.due("crack " + off + " at no step", g.crack(off, -1), Check.UNKNOWN);
        }
        Edge.due("crack 0 without cracks", Check.of("g2 1 0 0;").crack(0, 0), Check.UNKNOWN);
    }

    private static void stepsOfACrack() {
        Edge.says("Promise 10 (crack)", "OUTSIDE (0 .. 999999)");
        TidedGround g = Check.of("g2 1 0 0;m0 0 9,10;k0 0 0 30;");
        Edge.due("at 0", g.crack(0, 0), 0);
        Edge.due("at 999998", g.crack(0, 999998), 0);
        Edge.due("at 999999", g.crack(0, 999999), 1);
        Edge.outsideOf("crack", 0, Edge.LAST_TOLD, g, v -> o -> o.crack(0, v));
    }

    private static void openAboveItsLimit() {
        Edge.says("Promise 10 (crack), row 1", "it is open, when its PULL there is above C less 30, C 0 .. 60");
        String most = "g2 1 0 0;m0 0 18,0;m0 0 18,0;m0 0 18,0;k0 0 0 ";
        // A pull of 27 at step 0, of -27 at step 1.
        Edge.due("limit 26 by 27", Check.of(most + "56;").crack(0, 0), 1);
        Edge.due("limit 27 by 27", Check.of(most + "57;").crack(0, 0), 0);
        Edge.due("limit 30 by 27", Check.of(most + "60;").crack(0, 0), 0);
        Edge.due("limit -28 by -27", Check.of(most + "2;").crack(0, 1), 1);
        Edge.due("limit -27 by -27", Check.of(most + "3;").crack(0, 1), 0);
        Edge.due("limit -30 by -27", Check.of(most + "0;").crack(0, 1), 1);
        Edge.due("limit 0 by 0", Check.of("g2 1 0 0;k0 0 0 30;").crack(0, 0), 0);
        Edge.due("limit -1 by 0", Check.of("g2 1 0 0;k0 0 0 29;").crack(0, 0), 1);
        // Moons that come a step later for each X and Y: the pull is that at the crack's own cell, by softness of none.
        TidedGround g = Check.of("g2 2 0 0;m1 2 9,10,9,9;k0 0 0 30;k1 0 1 30;k0 1 0 30;");
        int[][] open = {{0, 1, 0, 0}, {1, 0, 0, 0}, {0, 0, 0, 1}};
        for (int k = 0; k < 3; k++) {
            for (int t = 0; t < 4; t++) {
                Edge.due("crack " + k + " at " + t, g.crack(k, t), open[k][t]);
            }
        }
    }
}
