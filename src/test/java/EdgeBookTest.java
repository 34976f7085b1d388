/** The edges that the document names, promises 34 to 39: write, tear, judge, seed, keep, goBack. */
public final class EdgeBookTest {
    public static void main(String[] args) {
        waysToWrite();
        thirtyAtMost();
        emptyAndFullTears();
        boundsOfJudge();
        anEmptyBook();
        theFirstThatMayNotBe();
        pushedUpToThere();
        theFullestBook();
        fromWhereItIs();
        seedBounds();
        theSeedStaysWithAGround();
        imagesThatThereAreNot();
        notKept();
        whatAnImageKeeps();
        whatAnImageDoesNotKeep();
        imagesAreApart();
        imagesStayKept();
        imagesWithoutCells();
        Check.end();
    }

    private static void waysToWrite() {
        Edge.says("Promise 34 (write)", "A STEP behind THE BOOK (0 .. 4): how many. OUTSIDE");
        TidedGround g = Check.of("g1 1 0 0;");
        for (int way = 0; way <= 4; way++) {
            Edge.due("write(" + way + ")", g.write(way), way + 1);
        }
        Edge.outsideOf("write", 0, 4, g, v -> o -> o.write(v));
        Edge.due("told(14)", g.told(14), 5);
        TidedGround none = new TidedGround();
        Edge.due("without cells", none.write(4), 1);
        Edge.outsideOf("write without cells", 0, 4, none, v -> o -> o.write(v));
        Edge.says("Promise 34 (write), row 3", "STEPS (0 stays, 1 north, 2 east, 3 south, 4 west");
        // 1 1 in the middle: a crack that is always open on one side tells which way was written.
        String[] sides = {"", "k1 0 1 0;", "k1 1 0 0;", "k1 1 1 0;", "k0 1 0 0;"};
        for (int way = 0; way <= 4; way++) {
            for (int side = 1; side <= 4; side++) {
                TidedGround o = Check.of("g3 3 50 0;" + sides[side]);
                o.roll(side == 1 ? 3 : 2);
                o.roll(side == 1 ? 2 : 3);
                o.write(way);
                Edge.due("write(" + way + "), crack on side " + side, o.judge(0), way == side ? 0 : Check.NONE);
            }
        }
    }

    private static void thirtyAtMost() {
        Edge.says("Promise 34 (write)", "FULL (30)");
        TidedGround g = Check.of("g1 1 0 0;");
        for (int i = 1; i <= 30; i++) {
            Edge.due("write number " + i, g.write(0), i);
        }
        Edge.due("write number 31", g.write(0), Check.FULL);
        Edge.due("write(4) as number 31", g.write(4), Check.FULL);
        Edge.due("write(5) as number 31", g.write(5), Check.OUTSIDE);
        Edge.due("write(-1) as number 31", g.write(-1), Check.OUTSIDE);
        Edge.due("told(14)", g.told(14), 30);
        Edge.due("nothing in it is wrong", g.judge(0), Check.NONE);
        Edge.due("tear()", g.tear(), 30);
        Edge.due("write behind it", g.write(0), 1);
    }

    private static void emptyAndFullTears() {
        Edge.says("Promise 35 (tear)", "THE BOOK is empty, nothing is SEEN: how many both had.");
        Edge.due("of a new object", new TidedGround().tear(), 0);
        TidedGround g = Check.of("g1 1 5 1;m0 0 9,10;");
        Edge.due("of a new ground", g.tear(), 0);
        g.write(0);
        Edge.due("of a book alone", g.tear(), 1);
        g.see(0, 0, 0, 5);
        Edge.due("of what was seen alone", g.tear(), 1);
        for (int i = 0; i < 30; i++) {
            g.write(2);
        }
        for (int i = 0; i < 12; i++) {
            g.see(0, 0, i, 99);
        }
        Edge.due("of both, full", g.tear(), 42);
        Edge.due("told(13)", g.told(13), 0);
        Edge.due("told(14)", g.told(14), 0);
        Edge.due("tear() again", g.tear(), 0);
        Edge.due("judge(0)", g.judge(0), Check.NONE);
        Edge.due("judge(1)", g.judge(1), 0);
        Edge.due("fits", g.fits(-1, 0), 2);
        g.pass(3);
        g.write(0);
        g.tear();
        Edge.due("THE STEP stays", g.told(8), 3);
    }

    private static void boundsOfJudge() {
        Edge.says("Promise 36 (judge)", "what = 0 WRONG (NONE), 1 PUSHED. OUTSIDE, NOT: no CELLS.");
        TidedGround g = Check.of("g2 1 0 0;c1 0 5 0;");
        g.write(2);
        Edge.due("what 0", g.judge(0), Check.NONE);
        Edge.due("what 1", g.judge(1), 5);
        Edge.outsideOf("judge", 0, 1, g, v -> o -> o.judge(v));
        TidedGround none = new TidedGround();
        Edge.due("without cells, what 0", none.judge(0), Check.NOT);
        Edge.due("without cells, what 1", none.judge(1), Check.NOT);
        none.write(0);
        Edge.due("without cells, with a book", none.judge(0), Check.NOT);
        Edge.outsideOf("judge without cells", 0, 1, none, v -> o -> o.judge(v));
    }

    private static void anEmptyBook() {
        Edge.says("Promise 36 (judge), row 3", "WRONG: the first that may not be; NONE; PUSHED in all up to there");
        TidedGround g = Check.of("g1 1 0 0;");
        Edge.due("no book, what 0", g.judge(0), Check.NONE);
        Edge.due("no book, what 1", g.judge(1), 0);
    }

    private static void theFirstThatMayNotBe() {
        Edge.says("Promise 36 (judge), row 3", "WRONG: the first that may not be");
        // Every place of a full book in turn is a step off the ground, and the last place too.
        for (int wrong = 0; wrong < 30; wrong++) {
            TidedGround g = Check.of("g1 1 0 0;");
            for (int i = 0; i < 30; i++) {
                g.write(i == wrong || wrong < i && i % 3 == 0 ? 1 + i % 4 : 0);
            }
            Edge.due("wrong at " + wrong, g.judge(0), wrong);
            Edge.due("pushed up to " + wrong, g.judge(1), 0);
        }
        TidedGround steep = Check.of("g3 1 0 0;c1 0 20 0;c2 0 41 0;");
        steep.write(2);
        steep.write(2);
        Edge.due("up 20 and 21", steep.judge(0), 1);
        Edge.due("up 20 and 21, pushed", steep.judge(1), 20);
        steep.steep(21);
        Edge.due("up 20 and 21 by 21", steep.judge(0), Check.NONE);
        Edge.due("up 20 and 21 by 21, pushed", steep.judge(1), 41);
        steep.steep(19);
        Edge.due("up 20 by 19", steep.judge(0), 0);
        Edge.due("up 20 by 19, pushed", steep.judge(1), 0);
    }

    private static void pushedUpToThere() {
        Edge.says("Promise 36 (judge), row 3", "PUSHED in all up to there");
        TidedGround g = Check.of("g2 1 0 0;c1 0 5 0;");
        int[] book = {2, 4, 2, 0, 4, 4, 2};
        int[] pushed = {5, 5, 10, 10, 10, 10, 10};
        for (int i = 0; i < book.length; i++) {
            g.write(book[i]);
            Edge.due("pushed by " + (i + 1), g.judge(1), pushed[i]);
            Edge.due("wrong of " + (i + 1), g.judge(0), i < 5 ? Check.NONE : 5);
        }
    }

    private static void theFullestBook() {
        Edge.says("Promise 36 (judge), row 3", "30 at most) of the cart from where it is, from THE STEP on");
        // Up 99 at each second of thirty steps.
        TidedGround g = Check.of("g2 1 0 0;c1 0 99 0;");
        g.steep(99);
        for (int i = 0; i < 30; i++) {
            g.write(i % 2 == 0 ? 2 : 4);
        }
        Edge.due("what 0", g.judge(0), Check.NONE);
        Edge.due("what 1", g.judge(1), 15 * 99);
        g.steep(98);
        Edge.due("too steep at once", g.judge(0), 0);
        // Open at the step of the last one alone.
        TidedGround last = Check.of("g2 1 0 0;m0 0 9,9,9,9,9,10;k0 0 0 30;");
        for (int i = 0; i < 29; i++) {
            last.write(0);
        }
        last.write(2);
        Edge.due("the crack at step 30", last.judge(0), Check.NONE);
        last.pass(5);
        Edge.due("the crack at step 35, open", last.judge(0), 29);
    }

    private static void fromWhereItIs() {
        Edge.says("Promise 36 (judge), row 3", "of the cart from where it is, from THE STEP on");
        TidedGround g = Edge.late("g2 1 0 0;c1 0 5 1;m0 0 9,9,10,11;", Edge.LAST_STEP);
        g.write(2);
        Edge.due("from 900000, which leaves 0 by 4: pushed at 900001", g.judge(1), 5);
        g.tear();
        g.write(0);
        g.write(2);
        Edge.due("pushed at 900002", g.judge(1), 6);
        g.write(4);
        g.write(0);
        g.write(0);
        g.write(0);
        g.write(2);
        Edge.due("and at 900007", g.judge(1), 13);
        Edge.due("nothing wrong past 900000", g.judge(0), Check.NONE);
        Edge.due("nothing moved", g.told(8), Edge.LAST_STEP);
        Edge.due("nothing was pushed", g.told(11), 0);
        TidedGround there = Check.of("g2 1 0 0;");
        there.write(2);
        there.roll(2);
        Edge.due("from 1 0 there is no east", there.judge(0), 0);
    }

    private static void seedBounds() {
        Edge.says("Promise 37 (seed)", "THE SEED becomes v (0 .. 2147483647): what it was. OUTSIDE.");
        TidedGround g = new TidedGround();
        Edge.due("seed(2147483647)", g.seed(2147483647), 0);
        Edge.due("seed(0)", g.seed(0), 2147483647);
        Edge.due("seed(2147483646)", g.seed(2147483646), 0);
        Edge.due("seed(-1)", g.seed(-1), Check.OUTSIDE);
        Edge.due("seed(-2147483648)", g.seed(Edge.LEAST), Check.OUTSIDE);
        Edge.due("seed(1)", g.seed(1), 2147483646);
    }

    private static void theSeedStaysWithAGround() {
        Edge.says("Promises 3, 37 (ground, seed)", "THE SEED stays");
        TidedGround g = new TidedGround();
        g.seed(2147483647);
        Check.feed(g, "g1 1 0 0;");
        g.ground();
        Edge.due("behind a ground", g.seed(9), 2147483647);
        Check.feed(g, "x");
        g.ground();
        Edge.due("behind a fault", g.seed(8), 9);
        g.ground();
        Edge.due("behind an empty ground", g.seed(7), 8);
    }

    private static void imagesThatThereAreNot() {
        Edge.says("Promises 38, 39 (keep, goBack)", "IMAGE i becomes what is so: 1. UNKNOWN.");
        TidedGround g = Check.of(Check.SMALL);
        for (int off : new int[] {-1, 2, Edge.LEAST, Edge.GREATEST}) {
            Edge.due("keep(" + off + ")", g.keep(off), Check.UNKNOWN);
            Edge.due("goBack(" + off + ")", g.goBack(off), Check.UNKNOWN);
        }
        Edge.due("goBack(0) still", g.goBack(0), Check.NOT);
        Edge.due("goBack(1) still", g.goBack(1), Check.NOT);
        Edge.due("keep(0)", g.keep(0), 1);
        Edge.due("keep(1)", g.keep(1), 1);
    }

    private static void notKept() {
        Edge.says("Promise 39 (goBack)", "NOT: it was not kept");
        TidedGround g = Check.of(Check.SMALL);
        Edge.due("goBack(0)", g.goBack(0), Check.NOT);
        Edge.due("goBack(1)", g.goBack(1), Check.NOT);
        g.keep(0);
        Edge.due("goBack(0), kept", g.goBack(0), 1);
        Edge.due("goBack(1), the other kept", g.goBack(1), Check.NOT);
        Check.feed(g, "x");
        g.ground();
        Edge.due("goBack(0) behind a fault", g.goBack(0), 1);
        Check.feed(g, Check.SMALL);
        g.ground();
        Edge.due("goBack(0) behind a ground", g.goBack(0), Check.NOT);
        g.keep(1);
        Edge.due("goBack(0), the other kept", g.goBack(0), Check.NOT);
        Edge.due("goBack(1), kept", g.goBack(1), 1);
    }

    /** All that an image keeps, at its first or last number. */
    private static void set(TidedGround g, boolean high) {
        for (int c = 0; c < 24; c++) {
            g.load(c % 6, c / 6, high ? 90 - c : c);
        }
        for (int h = 0; h < 6; h++) {
            g.prop(h, high ? 999 - h : h);
        }
        for (int i = 0; i < 3; i++) {
            g.shift(i, high ? 0 : 1);
        }
        g.steep(high ? 99 : 0);
        g.seed(high ? 2147483647 : 1);
    }

    private static void isSet(String when, TidedGround g, boolean high) {
        for (int c = 0; c < 24; c++) {
            Edge.due(when + ", load of " + c, g.cell(c % 6, c / 6, 2), high ? 90 - c : c);
        }
        for (int h = 0; h < 6; h++) {
            Edge.due(when + ", props of " + h, g.house(h, 2), high ? 999 - h : h);
        }
        for (int i = 0; i < 3; i++) {
            Edge.due(when + ", shift of " + i, g.moon(i, 3), high ? 0 : 1);
        }
        Edge.due(when + ", STEEP", g.told(12), high ? 99 : 0);
        Edge.due(when + ", THE SEED", g.seed(3), high ? 2147483647 : 1);
    }

    private static final String SIX_HOUSES =
        "g6 4 5 0;c1 0 9 0;m0 0 9,9;m0 0 9,9;m0 0 9,9;h0 0 1;h1 0 1;h2 0 1;h3 0 1;h4 0 1;h5 3 1;";

    private static void whatAnImageKeeps() {
        Edge.says("Promises 38, 39 (keep, goBack), row 3",
            "IMAGES 0, 1 keep THE STEP, SHIFTS, LOADS, PROPS, the cart, PUSHED, STEEP, THE SEED.");
        for (int i = 0; i <= 1; i++) {
            TidedGround g = Check.of(SIX_HOUSES);
            g.roll(2);
            set(g, true);
            Edge.due("keep(" + i + ")", g.keep(i), 1);
            g.roll(3);
            g.pass(77);
            g.roll(2);
            g.roll(4);
            set(g, false);
            Edge.due("goBack(" + i + ")", g.goBack(i), 1);
            Edge.due("THE STEP", g.told(8), 1);
            Edge.due("the cart", g.told(10), 10);
            Edge.due("PUSHED", g.told(11), 4);
            isSet("gone back", g, true);
        }
        TidedGround late = Check.of("g2 1 5 0;");
        late.keep(0);
        Edge.waited(late, Edge.LAST_STEP);
        late.keep(1);
        late.goBack(0);
        Edge.due("THE STEP of 0", late.told(8), 0);
        Edge.due("a step from there", late.roll(2), 0);
        late.goBack(1);
        Edge.due("THE STEP of 1", late.told(8), Edge.LAST_STEP);
        Edge.due("no step from there", late.roll(0), Check.FULL);
        Edge.due("the cart of 1", late.told(10), 0);
    }

    private static void whatAnImageDoesNotKeep() {
        Edge.says("Promise 39 (goBack), row 3",
            "IMAGES 0, 1 keep THE STEP, SHIFTS, LOADS, PROPS, the cart, PUSHED, STEEP, THE SEED.");
        TidedGround g = Check.of("g1 1 5 1;m0 0 9,10;");
        g.write(0);
        g.see(0, 0, 0, 5);
        g.feed('g');
        g.keep(0);
        g.write(1);
        g.see(0, 0, 1, 5);
        g.feed('1');
        g.goBack(0);
        Edge.due("letters of THE TEXT", g.told(7), 2);
        Edge.due("what was SEEN", g.told(13), 2);
        Edge.due("STEPS of THE BOOK", g.told(14), 2);
        Edge.due("fits by all that was seen", g.fits(-1, 0), 0);
        Edge.due("the book's second step is wrong", g.judge(0), 1);
        g.tear();
        g.goBack(0);
        Edge.due("a book that was torn stays so", g.told(14), 0);
    }

    private static void imagesAreApart() {
        Edge.says("Promises 38, 39 (keep, goBack), row 3", "IMAGES 0, 1");
        TidedGround g = Check.of(SIX_HOUSES);
        set(g, true);
        g.keep(0);
        set(g, false);
        g.keep(1);
        g.goBack(0);
        isSet("image 0", g, true);
        g.goBack(1);
        isSet("image 1", g, false);
        g.goBack(0);
        g.load(0, 0, 45);
        g.prop(0, 45);
        g.goBack(0);
        isSet("image 0 again, though what was so has changed", g, true);
    }

    private static void imagesStayKept() {
        Edge.says("Promise 39 (goBack)", "What is so becomes IMAGE i: 1.");
        TidedGround g = Check.of("g2 1 5 0;");
        g.pass(4);
        g.keep(1);
        for (int i = 0; i < 3; i++) {
            g.pass(9);
            Edge.due("goBack(1)", g.goBack(1), 1);
            Edge.due("THE STEP", g.told(8), 4);
        }
        g.pass(1);
        Edge.due("keep(1) over it", g.keep(1), 1);
        g.pass(1);
        g.goBack(1);
        Edge.due("THE STEP kept last", g.told(8), 5);
    }

    private static void imagesWithoutCells() {
        Edge.says("Promises 1, 38, 39 (keep, goBack)", "IMAGE i becomes what is so: 1.");
        TidedGround g = new TidedGround();
        g.pass(7);
        g.steep(7);
        g.seed(7);
        Edge.due("keep(0)", g.keep(0), 1);
        g.pass(1);
        g.steep(1);
        g.seed(1);
        Edge.due("goBack(0)", g.goBack(0), 1);
        Edge.due("THE STEP", g.told(8), 7);
        Edge.due("STEEP", g.told(12), 7);
        Edge.due("THE SEED", g.seed(0), 7);
    }
}
