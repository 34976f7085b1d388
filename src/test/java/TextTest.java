/** Promises 1 to 4: a new object, feed, ground, fault. */
public final class TextTest {
    public static void main(String[] args) {
        newObject();
        letters();
        goodTexts();
        cannotStand();
        outOfBounds();
        tooMany();
        again();
        firstOfSeveral();
        whatANewGroundClears();
        nothingIsLeftOfTextsBefore();
        whatAFaultLeaves();
        Check.end();
    }

    private static void newObject() {
        TidedGround g = new TidedGround();
        for (int what = 0; what <= 14; what++) {
            Check.due("new told(" + what + ")", g.told(what), what == 9 ? 1 : what == 12 ? 20 : 0);
        }
        Check.due("new fault()", g.fault(), Check.NONE);
        Check.due("new cell", g.cell(0, 0, 0), Check.UNKNOWN);
        Check.due("new height", g.height(0, 0, 0), Check.UNKNOWN);
        Check.due("new moon", g.moon(0, 0), Check.UNKNOWN);
        Check.due("new house", g.house(0, 0), Check.UNKNOWN);
        Check.due("new crack", g.crack(0, 0), Check.UNKNOWN);
        Check.due("new roll", g.roll(0), Check.NOT);
        Check.due("new load", g.load(0, 0, 0), Check.UNKNOWN);
        Check.due("new prop", g.prop(0, 0), Check.UNKNOWN);
        Check.due("new shift", g.shift(0, 0), Check.UNKNOWN);
        Check.due("new drift", g.drift(1), Check.NOT);
        Check.due("new level of 1", g.level(1, 0, 0), Check.UNKNOWN);
        Check.due("new level of 0", g.level(0, 0, 0), Check.OUTSIDE);
        Check.due("new aslant", g.aslant(0), Check.NOT);
        Check.due("new turn", g.turn(0, 0, 1), Check.UNKNOWN);
        Check.due("new most", g.most(0, 0, 0, 0), Check.UNKNOWN);
        Check.due("new bell", g.bell(0, 0, 0, 0, 0), Check.UNKNOWN);
        Check.due("new breaks", g.breaks(0, 0), Check.NONE);
        Check.due("new props", g.props(1), 0);
        Check.due("new soonest", g.soonest(0, 0, 0), Check.UNKNOWN);
        Check.due("new least", g.least(0, 0, 0, 1, -1), Check.UNKNOWN);
        Check.due("new water", g.water(0, 0, 0), Check.NOT);
        Check.due("new whose", g.whose(0, 0), Check.UNKNOWN);
        Check.due("new stays", g.stays(0), Check.UNKNOWN);
        Check.due("new see", g.see(0, 0, 0, 0), Check.UNKNOWN);
        Check.due("new fits(-1)", g.fits(-1, 0), 1);
        Check.due("new fits(0, 0)", g.fits(0, 0), Check.UNKNOWN);
        Check.due("new look", g.look(0), Check.NONE);
        Check.due("new odds", g.odds(0, 0, 0, 0, 0, 0), Check.UNKNOWN);
        Check.due("new judge", g.judge(0), Check.NOT);
        Check.due("new goBack", g.goBack(0), Check.NOT);
        Check.due("new seed", g.seed(5), 0);
        Check.due("new keep", g.keep(0), 1);
        Check.due("new write", g.write(4), 1);
        Check.due("new tear", g.tear(), 1);
        Check.due("new steep", g.steep(3), 20);
        Check.due("new pass", g.pass(7), 7);
    }

    private static void letters() {
        TidedGround g = new TidedGround();
        Check.due("feed(-1)", g.feed(-1), Check.OUTSIDE);
        Check.due("feed(256)", g.feed(256), Check.OUTSIDE);
        Check.due("feed(0)", g.feed(0), 1);
        Check.due("feed(255)", g.feed(255), 2);
        for (int i = 3; i <= 250; i++) {
            Check.due("feed(32)", g.feed(32), i);
        }
        Check.due("feed the 251st", g.feed(32), Check.FULL);
        Check.due("feed(256) when full", g.feed(256), Check.OUTSIDE);
        Check.due("told(7) when full", g.told(7), 250);
        Check.due("ground of letter 0", g.ground(), -11);
        Check.due("feed after ground", g.feed(103), 1);
        g = Check.fed("g1 1 0 0;" + " ".repeat(241));
        Check.due("ground of 250 letters", g.ground(), 1);
        g = Check.fed("g1 1 0 0;" + " ".repeat(240) + "m");
        Check.due("ground, its last letter a word", g.ground(), -11);
        Check.due("fault at the end of 250", g.fault(), 250);
    }

    private static void good(String text, int cells) {
        TidedGround g = Check.fed(text);
        Check.due("ground() of '" + text + "'", g.ground(), cells);
        Check.due("fault() of '" + text + "'", g.fault(), Check.NONE);
        Check.due("told(7) of '" + text + "'", g.told(7), 0);
    }

    private static void goodTexts() {
        good("", 0);
        good("   ", 0);
        good("g1 1 0 0;", 1);
        good("g6 4 99 9;", 24);
        good("g4 6 99 9;", 24);
        good("g001 002 099 009;", 2);
        good(" g 3  2 10 2 ; m 1 0 10 , 12 , 8 ; ", 6);
        good("g2 1 0 0;m8 8 18,0;", 2);
        good("g2 1 0 0;m0 0 1,2,3,4,5,6,7,8,9;m0 0 1,2;m0 0 1,2;", 2);
        good("g2 2 0 0;h1 1 99;w1 1 99;c1 1 99 9;k0 0 0 60;k0 0 1 0;k0 1 0 30;k1 0 1 5;d0 300;d300 300;d0 0;d5 6;", 4);
        good("g2 3 0 0;h0 0 1;h1 0 1;h0 1 1;h1 1 1;h0 2 1;h1 2 1;w0 0 1;w1 0 1;w0 1 1;w1 1 1;w0 2 1;", 6);
        good("g4 3 0 0;c0 0 1 1;c1 0 1 1;c2 0 1 1;c3 0 1 1;c0 1 1 1;c1 1 1 1;c2 1 1 1;c3 1 1 1;c0 2 1 1;c1 2 1 1;c2 2 1 1;c3 2 1 1;", 12);
    }

    private static void bad(String text, int number, int at) {
        TidedGround g = Check.fed(text);
        Check.due("ground() of '" + text + "'", g.ground(), -10 - number);
        Check.due("fault() of '" + text + "'", g.fault(), at);
        Check.due("told(7) of '" + text + "'", g.told(7), 0);
        Check.due("told(0) of '" + text + "'", g.told(0), 0);
    }

    /** A clause behind a ground of two by two cells; at is counted from the clause's word. */
    private static void badClause(String clause, int number, int at) {
        bad("g2 2 1 1;" + clause, number, 9 + at);
    }

    private static void cannotStand() {
        bad("x", 1, 0);
        bad("G1 1 1 1;", 1, 0);
        bad(" m0 0 1,1;", 1, 1);
        bad("c0 0 1 1;", 1, 0);
        bad(";", 1, 0);
        bad("1", 1, 0);
        bad("1234", 1, 0);
        bad("g", 1, 1);
        bad("g  ", 1, 3);
        bad("g;", 1, 1);
        bad("g1", 1, 2);
        bad("g1,1 1 1;", 1, 2);
        bad("g1 1 1 1", 1, 8);
        bad("g1 1 1 1 ", 1, 9);
        bad("g1 1 1 1 1;", 1, 9);
        bad("g1 1 1 1,", 1, 8);
        bad("g1 1 1 1 1234;", 1, 9);
        badClause("x", 1, 0);
        badClause(";", 1, 0);
        badClause("5", 1, 0);
        badClause("" + (char) 9, 1, 0);
        badClause("" + (char) 231, 1, 0);
        badClause("c0 0 1 g", 1, 7);
        badClause("c0 0 1 1", 1, 8);
        badClause("c;", 1, 1);
        badClause("cc", 1, 1);
        badClause("m0 0;", 1, 4);
        badClause("m0 0 1;", 1, 6);
        badClause("m0 0 1 ;", 1, 7);
        badClause("m0 0 1", 1, 6);
        badClause("m0 0 1 ", 1, 7);
        badClause("m0 0 1 2;", 1, 7);
        badClause("m0 0 1g", 1, 6);
        badClause("m0 0 1,;", 1, 7);
        badClause("m0 0 ,1;", 1, 5);
        badClause("m0 0 1,2", 1, 8);
        badClause("m0 0 1,2,", 1, 9);
        badClause("m0 0 1,2 3;", 1, 9);
        badClause("m0 0 1,1,1,1,1,1,1,1,1,1;", 1, 22);
        badClause("m0 0 1,1,1,1,1,1,1,1,1 ,99;", 1, 23);
        badClause("m0 0 1,1,1,1,1,1,1,1,1:", 1, 22);
        badClause("h0 0", 1, 4);
        badClause("h0 0 1", 1, 6);
        badClause("h0 0 1 1;", 1, 7);
        badClause("k0 0 0;", 1, 6);
        badClause("k0 0 0 1", 1, 8);
        badClause("k0 0 0 1d", 1, 8);
        badClause("w0 0;", 1, 4);
        badClause("w0 0 1,", 1, 6);
        badClause("d1;", 1, 2);
        badClause("d1 2", 1, 4);
        badClause("d-1 2;", 1, 1);
    }

    private static void outOfBounds() {
        bad("g0 1 1 1;", 2, 1);
        bad("g7 1 1 1;", 2, 1);
        bad("g1 0 1 1;", 2, 3);
        bad("g1 7 1 1;", 2, 3);
        bad("g5 5 1 1;", 2, 3);
        bad("g6  5", 2, 4);
        bad("g5 6 1 1;", 2, 3);
        bad("g1 1 100 1;", 2, 5);
        bad("g1 1 1 10;", 2, 7);
        bad("g0001 1 1 1;", 2, 1);
        bad("g1 1 0000 1;", 2, 5);
        bad("g1 1 4294967297 1;", 2, 5);
        bad("g1 1 1 1234", 2, 7);
        bad("g32 10 2;", 2, 1);
        badClause("c2 0 1 1;", 2, 1);
        badClause("c0 2 1 1;", 2, 3);
        badClause("c2", 2, 1);
        badClause("c0 0 100 1;", 2, 5);
        badClause("c0 0 1 10;", 2, 7);
        badClause("m9 0 1,1;", 2, 1);
        badClause("m0 9 1,1;", 2, 3);
        badClause("m0 0 19,1;", 2, 5);
        badClause("m0 0 1,19;", 2, 7);
        badClause("m0 0 1,2,0001;", 2, 9);
        badClause("h2 0 1;", 2, 1);
        badClause("h0 2 1;", 2, 3);
        badClause("h0 0 100;", 2, 5);
        badClause("k2 0 0 1;", 2, 1);
        badClause("k0 2 0 1;", 2, 3);
        badClause("k0 0 2 1;", 2, 5);
        badClause("k1 0 0 1;", 2, 5);
        badClause("k0 1 1 1;", 2, 5);
        badClause("k1 1 0 1;", 2, 5);
        badClause("k1 1  1", 2, 6);
        badClause("k0 0 0 61;", 2, 7);
        badClause("w2 0 1;", 2, 1);
        badClause("w0 2 1;", 2, 3);
        badClause("w0 0 100;", 2, 5);
        badClause("d301 0;", 2, 1);
        badClause("d0 301;", 2, 3);
        badClause("d300 301;", 2, 5);
    }

    private static void tooMany() {
        bad("g1 1 1 1;g", 3, 9);
        bad("g1 1 1 1;g1 1 1 1;", 3, 9);
        bad("g1 1 1 1;  g", 3, 11);
        String cells = "g4 4 0 0;c0 0 1 1;c1 0 1 1;c2 0 1 1;c3 0 1 1;c0 1 1 1;c1 1 1 1;c2 1 1 1;c3 1 1 1;c0 2 1 1;c1 2 1 1;c2 2 1 1;c3 2 1 1;";
        bad(cells + "c0 3 1 1;", 3, cells.length());
        bad(cells + " c0 0 1 1;", 3, cells.length() + 1);
        badClause("m0 0 1,1;m0 0 1,1;m0 0 1,1;m", 3, 27);
        String houses = "g4 2 0 0;h0 0 1;h1 0 1;h2 0 1;h3 0 1;h0 1 1;h1 1 1;";
        bad(houses + "h2 1 1;", 3, houses.length());
        String cracks = "g4 2 0 0;k0 0 0 1;k1 0 0 1;k2 0 0 1;k0 0 1 1;k1 0 1 1;k2 0 1 1;";
        bad(cracks + "k3 0 1 1;", 3, cracks.length());
        String wells = "g4 2 0 0;w0 0 1;w1 0 1;w2 0 1;w3 0 1;w0 1 1;";
        bad(wells + "w2 1 1;", 3, wells.length());
        badClause("d0 1;d0 1;d0 1;d0 1;d", 3, 20);
    }

    private static void again() {
        badClause("c1 0 1 1;c1 0 1 1;", 4, 12);
        badClause("c1 0 1 1;c0 1 1 1;c1  0", 4, 22);
        badClause("h1 1 1;h1 1 2;", 4, 10);
        badClause("w1 1 1;w1 1 2;", 4, 10);
        badClause("k0 0 0 1;k0 0 0 2;", 4, 14);
        badClause("k0 0 1 1;k0 0 0 1;k0 0 1 1;", 4, 23);
        badClause("d5 4;", 4, 3);
        badClause("d300  299", 4, 6);
    }

    private static void firstOfSeveral() {
        badClause("h0 0 100;x", 2, 5);
        badClause("h0 0 1;h0 0 100;", 4, 10);
        badClause("h0 0 1;h2 0 1;", 2, 8);
        badClause("d5 4x", 4, 3);
        badClause("d5 301;", 2, 3);
        badClause("d301 4;", 2, 1);
        badClause("k0 0 0 1;k0 0 2 1;", 2, 14);
        badClause("m9 9 99,99;", 2, 1);
        bad("g7 7 777 77", 2, 1);
    }

    private static void whatANewGroundClears() {
        TidedGround g = Check.of(Check.SMALL);
        g.pass(3);
        g.shift(0, 1);
        g.load(0, 0, 10);
        g.prop(0, 9);
        g.steep(99);
        g.roll(2);
        g.roll(3);
        g.see(0, 0, 0, 0);
        g.write(1);
        g.seed(77);
        g.keep(0);
        g.keep(1);
        Check.feed(g, Check.SMALL);
        Check.due("ground() again", g.ground(), 6);
        int[] want = {3, 2, 2, 1, 1, 3, 1, 0, 0, 6, 0, 0, 20, 0, 0};
        for (int what = 0; what < want.length; what++) {
            Check.due("told(" + what + ") of the new ground", g.told(what), want[what]);
        }
        Check.due("its shift", g.moon(0, 3), 0);
        Check.due("its load", g.cell(0, 0, 2), 0);
        Check.due("its prop", g.house(0, 2), 0);
        Check.due("its image 0", g.goBack(0), Check.NOT);
        Check.due("its image 1", g.goBack(1), Check.NOT);
        Check.due("the seed stays", g.seed(0), 77);
        Check.due("ground() of no text", g.ground(), 0);
        Check.due("told(0) of no ground", g.told(0), 0);
        Check.due("told(2) of no ground", g.told(2), 0);
        Check.due("told(9) of no ground", g.told(9), 1);
        Check.due("cell of no ground", g.cell(0, 0, 0), Check.UNKNOWN);
        Check.feed(g, "g1 1 4 3;");
        Check.due("ground() of one cell", g.ground(), 1);
        Check.due("its base", g.cell(0, 0, 0), 4);
        Check.due("its height without moons", g.cell(0, 0, 5), 4);
    }

    /** Rows are used again: a ground after the next must not show what the one before had. */
    private static void nothingIsLeftOfTextsBefore() {
        String rich = "g2 2 7 3;c0 0 1 1;c1 0 1 1;c0 1 1 1;c1 1 1 1;m3 5 18,18;m3 5 18,18;m3 5 18,18;h0 0 1;k0 0 0 0;w0 0 1;d0 0;";
        TidedGround g = Check.of(rich);
        for (int i = 0; i < 4; i++) {
            Check.feed(g, rich);
            Check.due("ground() of the rich text again", g.ground(), 4);
            Check.due("its houses", g.told(3), 1);
            Check.due("its moons", g.told(2), 3);
        }
        for (int i = 0; i < 2; i++) {
            Check.feed(g, "g3 2 7 3;m1 1 9,10,11;");
            Check.due("ground() of a poor text", g.ground(), 6);
            for (int what = 3; what <= 6; what++) {
                Check.due("told(" + what + ") of a poor text", g.told(what), 0);
            }
            Check.due("moons of a poor text", g.told(2), 1);
            Check.due("period of a poor text", g.told(9), 3);
            Check.due("base of a poor text", g.cell(0, 0, 0), 7);
            Check.due("fits of a poor text", g.fits(-1, 0), 3);
            g.see(1, 1, 0, 13);
            Check.due("fits of a poor text with a pull of 2", g.fits(0, 0), 0);
            Check.due("and no more", g.fits(-1, 0), 1);
        }
        g.ground();
        g.ground();
        Check.due("cells of no text", g.cell(0, 0, 0), Check.UNKNOWN);
        Check.due("rows of no text", g.told(1), 0);
        String cells = "g4 3 0 0;c0 0 1 1;c1 0 1 1;c2 0 1 1;c3 0 1 1;c0 1 1 1;c1 1 1 1;c2 1 1 1;";
        for (int i = 0; i < 3; i++) {
            Check.feed(g, cells);
            Check.due("seven cells told anew", g.ground(), 12);
        }
    }

    private static void whatAFaultLeaves() {
        TidedGround g = Check.of(Check.SMALL);
        g.keep(1);
        g.pass(3);
        g.shift(0, 1);
        g.load(0, 0, 10);
        g.prop(0, 9);
        g.steep(99);
        g.see(0, 0, 0, 0);
        g.write(1);
        Check.feed(g, "g2 2 1 1;m0 0 1,1;h0 0 5;c0 0 7 7;x");
        Check.due("ground() with a fault", g.ground(), -11);
        Check.due("fault()", g.fault(), 34);
        int[] want = {3, 2, 2, 1, 1, 3, 1, 0, 3, 6, 0, 0, 99, 1, 1};
        for (int what = 0; what < want.length; what++) {
            Check.due("told(" + what + ") after a fault", g.told(what), want[what]);
        }
        Check.due("shift after a fault", g.moon(0, 3), 1);
        Check.due("load after a fault", g.cell(0, 0, 2), 10);
        Check.due("base after a fault", g.cell(0, 0, 0), 10);
        Check.due("prop after a fault", g.house(0, 2), 9);
        Check.due("hinge after a fault", g.house(0, 1), 6);
        Check.due("image after a fault", g.goBack(1), 1);
        Check.due("the step it kept", g.told(8), 0);
        Check.feed(g, "g1 1 1 1;");
        Check.due("ground() behind a fault", g.ground(), 1);
        Check.due("fault() behind a fault", g.fault(), Check.NONE);
    }
}
