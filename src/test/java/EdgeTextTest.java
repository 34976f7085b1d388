/** The edges that the document names, promises 1 to 4 and its row 1: a new object, feed, ground, fault. */
public final class EdgeTextTest {
    /** Behind it every clause but 'g' can stand; 12 letters. */
    private static final String GROUND = "g4 6 50 5;  ";

    public static void main(String[] args) {
        aNewObjectHasNoCells();
        lettersAreNumbers();
        theTextHas250Letters();
        theFullestText();
        numbersOfG();
        atMost24Cells();
        numbersOfC();
        cellsInPlaceOfThese();
        numbersOfM();
        rowsOfTwoToNine();
        rowsAreLessNine();
        numbersOfH();
        numbersOfK();
        cracksNeedACellBehind();
        numbersOfW();
        numbersOfD();
        deedsThatEndWhereTheyBegin();
        threeFigures();
        blanks();
        sideBySide();
        oneLetterWords();
        gIsFirst();
        gIsOnce();
        asManyOfEachClause();
        again();
        theEnd();
        theEndOfAShorterText();
        theEndOf250Letters();
        theFirstLetter();
        theLeastOfOneLetter();
        anEmptyText();
        theTextIsEmptyThen();
        numbersFrom0On();
        whatAGroundBegins();
        aPoorGroundBehindARichOne();
        clausesAreCountedAnew();
        whatAFaultLeaves();
        theLatestFault();
        Check.end();
    }

    private static void good(String text, int cells) {
        TidedGround g = Check.fed(text);
        Edge.due("ground() of '" + text + "'", g.ground(), cells);
        Edge.due("fault() of '" + text + "'", g.fault(), Check.NONE);
    }

    private static void bad(String text, int number, int at) {
        TidedGround g = Check.fed(text);
        Edge.due("ground() of '" + text + "'", g.ground(), -10 - number);
        Edge.due("fault() of '" + text + "'", g.fault(), at);
    }

    /** A clause behind GROUND; its place is counted from the clause's word. */
    private static void goodClause(String clause) {
        good(GROUND + clause, 24);
    }

    private static void badClause(String clause, int number, int at) {
        bad(GROUND + clause, number, GROUND.length() + at);
    }

    private static String filled(String form, int slot, String number) {
        return form.substring(0, place(form, slot)).replace('#', '0') + number
            + form.substring(place(form, slot) + 1).replace('#', '0');
    }

    /** Where the slot with this number stands in a form, '#' being the slots. */
    private static int place(String form, int slot) {
        int at = form.indexOf('#');
        for (int i = 0; i < slot; i++) {
            at = form.indexOf('#', at + 1);
        }
        return at;
    }

    /** The numbers of a clause one by one, the others being 0: both ends may be, what is past them not, at its place. */
    private static void numbers(String form, int[] highs) {
        for (int slot = 0; slot < highs.length; slot++) {
            int at = place(form, slot);
            for (int v : new int[] {0, highs[slot]}) {
                goodClause(filled(form, slot, "" + v));
                goodClause(filled(form, slot, String.format("%03d", v)));
                badClause(filled(form, slot, String.format("%04d", v)), 2, at);
            }
            for (int v : new int[] {highs[slot] + 1, 999, 1000}) {
                badClause(filled(form, slot, "" + v), 2, at);
            }
            badClause(filled(form, slot, "-1"), 1, at);
            badClause(filled(form, slot, ""), 1, followed(filled(form, slot, ""), at));
        }
    }

    /** Where a number that is left out is missed: those behind it move up, so it is at the next sign. */
    private static int followed(String clause, int at) {
        int i = at;
        while (clause.charAt(i) == ' ' || Character.isDigit(clause.charAt(i))) {
            i++;
        }
        return i;
    }

    private static void aNewObjectHasNoCells() {
        Edge.says("Promise 1", "No CELLS.");
        TidedGround g = new TidedGround();
        Edge.due("told(0)", g.told(0), 0);
        Edge.due("told(1)", g.told(1), 0);
        Edge.due("cell(0, 0, 0)", g.cell(0, 0, 0), Check.UNKNOWN);
        Edge.due("soonest(0, 0, 0)", g.soonest(0, 0, 0), Check.UNKNOWN);
        Edge.due("level(1, 0, 0)", g.level(1, 0, 0), Check.UNKNOWN);
        Edge.due("roll(0)", g.roll(0), Check.NOT);
        Edge.due("told(10)", g.told(10), 0);
        Edge.due("told(9)", g.told(9), 1);
        Edge.due("told(12)", g.told(12), 20);
        Edge.due("fault()", g.fault(), Check.NONE);
        Edge.due("goBack(0)", g.goBack(0), Check.NOT);
        Edge.due("seed(0)", g.seed(0), 0);
    }

    private static void lettersAreNumbers() {
        Edge.says("Promise 2 (feed)", "One letter (a number 0 .. 255) comes behind THE TEXT: how many it has.");
        TidedGround g = new TidedGround();
        Edge.due("feed(0)", g.feed(0), 1);
        Edge.due("feed(255)", g.feed(255), 2);
        Edge.outsideOf("feed", 0, 255, g, v -> o -> o.feed(v));
        Edge.due("told(7)", g.told(7), 2);
        Edge.due("feed(32)", g.feed(32), 3);
        for (int letter : new int[] {0, 255, 'g' + 128, 'g' - 32, 9, 10, 160}) {
            TidedGround one = new TidedGround();
            one.feed(letter);
            Edge.due("ground() of letter " + letter, one.ground(), -11);
            Edge.due("fault() of letter " + letter, one.fault(), 0);
        }
    }

    private static void theTextHas250Letters() {
        Edge.says("Promise 2 (feed)", "FULL (250)");
        TidedGround g = new TidedGround();
        for (int i = 1; i <= 250; i++) {
            Edge.due("feed number " + i, g.feed(i == 1 ? 'g' : ' '), i);
        }
        Edge.due("feed number 251", g.feed(' '), Check.FULL);
        Edge.due("told(7)", g.told(7), 250);
        Edge.due("feed(256) of a full text", g.feed(256), Check.OUTSIDE);
        Edge.due("feed(-1) of a full text", g.feed(-1), Check.OUTSIDE);
        Edge.due("ground()", g.ground(), -11);
        Edge.due("fault() at its end", g.fault(), 250);
        Edge.due("feed behind it", g.feed('g'), 1);
    }

    private static void theFullestText() {
        Edge.says("Promise 3 (ground), row 1", "is told in a text (250 letters at most)");
        TidedGround g = Check.fed(Edge.FULLEST);
        Edge.due("told(7) of the fullest text", g.told(7), 250);
        Edge.due("feed of one more", g.feed('x'), Check.FULL);
        Edge.due("ground() of the fullest text", g.ground(), 24);
        int[] want = {6, 4, 3, 6, 6, 5, 4, 0};
        for (int what = 0; what < want.length; what++) {
            Edge.due("told(" + what + ") of the fullest text", g.told(what), want[what]);
        }
        Edge.due("the last crack", g.crack(5, 0), 1);
        Edge.due("the last house", g.house(5, 0), 53);
        Edge.due("the last well", g.water(0, 0, 2), 0);
        Edge.due("the last deed", g.stays(3), 0);
        Edge.due("the last moon", g.moon(2, 4), 0);
        String packed = Edge.FULLEST.trim();
        for (char word : new char[] {'g', 'm', 'h', 'k', 'w', 'd'}) {
            bad(packed + " ".repeat(249 - packed.length()) + word, 3, 249);
        }
        bad(packed + " ".repeat(249 - packed.length()) + "c", 1, 250);
    }

    private static void numbersOfG() {
        Edge.says("Promise 3 (ground), row 1", "W, H 1 .. 6");
        for (int v = 1; v <= 6; v++) {
            good("g" + v + " 1 0 0;", v);
            good("g1 " + v + " 0 0;", v);
        }
        for (int v : new int[] {0, 7, 10, 999, 1000}) {
            bad("g" + v + " 1 0 0;", 2, 1);
            bad("g1 " + v + " 0 0;", 2, 3);
        }
        Edge.says("Promise 3 (ground), row 1", "BASE B 0 .. 99 and SOFTNESS S 0 .. 9 of each");
        for (int b : new int[] {0, 99}) {
            for (int s : new int[] {0, 9}) {
                TidedGround g = Check.of("g6 4 " + b + " " + s + ";");
                Edge.due("base of 0 0", g.cell(0, 0, 0), b);
                Edge.due("base of 5 3", g.cell(5, 3, 0), b);
                Edge.due("softness of 0 0", g.cell(0, 0, 1), s);
                Edge.due("softness of 5 3", g.cell(5, 3, 1), s);
            }
        }
        bad("g1 1 100 0;", 2, 5);
        bad("g1 1 999 0;", 2, 5);
        bad("g1 1 0 10;", 2, 7);
        bad("g1 1 0 99;", 2, 7);
    }

    private static void atMost24Cells() {
        Edge.says("Promise 3 (ground), row 1", "more than 24 CELLS (at the H)");
        for (int w = 1; w <= 6; w++) {
            for (int h = 1; h <= 6; h++) {
                String text = "g" + w + "  " + h + " 0 0;";
                if (w * h <= 24) {
                    good(text, w * h);
                } else {
                    bad(text, 2, 4);
                    bad("g" + w + " " + h, 2, 3);
                }
            }
        }
    }

    private static void numbersOfC() {
        Edge.says("Promise 3 (ground), row 1", "'c' X Y B S ';'");
        numbers("c# # # #;", new int[] {3, 5, 99, 9});
    }

    private static void cellsInPlaceOfThese() {
        Edge.says("Promise 3 (ground), row 1", "BASE, SOFTNESS of one CELL in place of these");
        TidedGround g = Check.of("g4 6 50 5;c0 0 0 0;c3 5 99 9;c3 0 1 2;");
        Edge.due("base of 0 0", g.cell(0, 0, 0), 0);
        Edge.due("softness of 0 0", g.cell(0, 0, 1), 0);
        Edge.due("base of 3 5", g.cell(3, 5, 0), 99);
        Edge.due("softness of 3 5", g.cell(3, 5, 1), 9);
        Edge.due("base of 3 0", g.cell(3, 0, 0), 1);
        Edge.due("softness of 3 0", g.cell(3, 0, 1), 2);
        Edge.due("base of 0 3, which is another", g.cell(0, 3, 0), 50);
        Edge.due("softness of 0 5", g.cell(0, 5, 1), 5);
    }

    private static void numbersOfM() {
        Edge.says("Promise 3 (ground), row 1", "U, V 0 .. 8");
        numbers("m# # #,#;", new int[] {8, 8, 18, 18});
        numbers("m# # #,#,#,#,#,#,#,#,#;", new int[] {8, 8, 18, 18, 18, 18, 18, 18, 18, 18, 18});
    }

    private static void rowsOfTwoToNine() {
        Edge.says("Promise 3 (ground), row 1", "N numbers A, 2 to 9 of them");
        String row = "m0 0 9";
        for (int n = 2; n <= 9; n++) {
            row += ",9";
            goodClause(row + ";");
            goodClause(row + " ;");
            Edge.due("N of " + row, Check.of(GROUND + row + ";").moon(0, 0), n);
        }
        Edge.says("Promise 3 (ground), row 1", "a tenth A: at its ','");
        for (String tenth : new String[] {",9;", ",", ",99;", ",1000;", ", ;", ",x"}) {
            badClause(row + tenth, 1, row.length());
            badClause(row + "  " + tenth, 1, row.length() + 2);
        }
        Edge.says("Promise 3 (ground), row 1", "an only A: at what is behind it");
        for (String only : new String[] {";", "", "x", "m0 0 9,9;", "-", ":"}) {
            badClause("m0 0 9" + only, 1, 6);
            badClause("m0 0 9  " + only, 1, 8);
        }
        badClause("m0 0 9 9;", 1, 7);
        badClause("m0 0 19;", 2, 5);
        badClause("m0 0;", 1, 4);
        badClause("m0 0 ,9;", 1, 5);
        badClause("m0 0 9,;", 1, 7);
        badClause("m0 0 9,9,;", 1, 9);
    }

    private static void rowsAreLessNine() {
        Edge.says("Promise 3 (ground), row 1", "0 .. 18 each, less 9: its ROW");
        TidedGround g = Check.of("g1 1 0 1;m0 0 0,18,9,8,10;");
        int[] want = {-9, 9, 0, -1, 1};
        for (int t = 0; t < want.length; t++) {
            Edge.due("height at " + t, g.height(0, 0, t), want[t]);
        }
    }

    private static void numbersOfH() {
        Edge.says("Promise 3 (ground), row 1", "on a CELL, with a HINGE of K, 0 .. 99; one on a CELL");
        numbers("h# # #;", new int[] {3, 5, 99});
        Edge.due("a hinge of 99", Check.of("g1 1 0 0;h0 0 99;").house(0, 1), 99);
        Edge.due("a hinge of 0", Check.of("g1 1 0 0;h0 0 0;").house(0, 1), 0);
    }

    private static void numbersOfK() {
        Edge.says("Promise 3 (ground), row 1", "from a CELL to the east (D 0) or the south (D 1)");
        // X 3 and Y 5 have no cell behind them by one of the two ways: their bounds are looked at by the other.
        numbers("k# 0 1 #;", new int[] {3, 60});
        numbers("k0 # 0 #;", new int[] {5, 60});
        numbers("k0 0 # #;", new int[] {1, 60});
        badClause("k4 0 1 0;", 2, 1);
        badClause("k0 6 0 0;", 2, 3);
        badClause("k0 5 1 0;", 2, 5);
    }

    private static void cracksNeedACellBehind() {
        Edge.says("Promise 3 (ground), row 1", "that has no CELL to its east, south (at the D)");
        for (int x = 0; x < 4; x++) {
            for (int y = 0; y < 6; y++) {
                for (int d = 0; d <= 1; d++) {
                    String clause = "k" + x + " " + y + "  " + d + " 0;";
                    if (d == 0 ? x < 3 : y < 5) {
                        goodClause(clause);
                    } else {
                        badClause(clause, 2, 6);
                        badClause("k" + x + " " + y + " " + d, 2, 5);
                    }
                }
            }
        }
        bad("g1 1 0 0;k0 0 0 0;", 2, 14);
        bad("g1 1 0 0;k0 0 1 0;", 2, 14);
        good("g2 1 0 0;k0 0 0 0;", 2);
        bad("g2 1 0 0;k0 0 1 0;", 2, 14);
        good("g1 2 0 0;k0 0 1 0;", 2);
        bad("g1 2 0 0;k0 0 0 0;", 2, 14);
    }

    private static void numbersOfW() {
        Edge.says("Promise 3 (ground), row 1", "on a CELL, D deep, 0 .. 99; one on a CELL");
        numbers("w# # #;", new int[] {3, 5, 99});
        Edge.due("99 deep", Check.of("g1 1 0 0;w0 0 99;").water(0, 0, 0), -99);
        Edge.due("0 deep", Check.of("g1 1 0 0;w0 0 0;").water(0, 0, 0), 0);
    }

    private static void numbersOfD() {
        Edge.says("Promise 3 (ground), row 1", "heights A to B, 0 .. 300 both less 100, B not below A");
        numbers("d0 #;", new int[] {300});
        for (int a : new int[] {0, 300}) {
            goodClause("d" + a + " 300;");
            goodClause("d00" + a / 300 + " 300;");
        }
        badClause("d301 300;", 2, 1);
        badClause("d301 301;", 2, 1);
        badClause("d300 301;", 2, 5);
        badClause("d999 0;", 2, 1);
        badClause("d0300 300;", 2, 1);
    }

    private static void deedsThatEndWhereTheyBegin() {
        Edge.says("Promise 3 (ground), row 1", "B below A (at it)");
        for (int a : new int[] {1, 9, 99, 100, 300}) {
            String from = "d" + a + "  ";
            goodClause(from + a + ";");
            badClause(from + (a - 1) + ";", 4, from.length());
            badClause(from + "0;", 4, from.length());
            badClause(from + "0", 4, from.length());
        }
        goodClause("d0 0;");
        goodClause("d99 100;");
        badClause("d100 099;", 4, 5);
    }

    private static void threeFigures() {
        Edge.says("Promise 3 (ground), row 1", "NUMBERS have one to three figures");
        good("g1 1 7 0;", 1);
        good("g01 01 07 00;", 1);
        good("g001 001 007 000;", 1);
        bad("g0001 1 7 0;", 2, 1);
        bad("g1 0001 7 0;", 2, 3);
        bad("g1 1 0007 0;", 2, 5);
        bad("g1 1 7 0000;", 2, 7);
        Edge.says("Promise 3 (ground), row 1", "a NUMBER of four figures or more");
        // What would be in bounds again, if the number were let run over.
        bad("g1 1 4294967296 0;", 2, 5);
        bad("g1 1 18446744073709551616 0;", 2, 5);
        bad("g1 1 7 00000000000000000000", 2, 7);
        Edge.due("007 is 7", Check.of("g001 001 007 000;").cell(0, 0, 0), 7);
        Edge.due("three figures as they stand", Check.of("g1 1 23 0;d123 123;").whose(0, 0), 1);
    }

    private static void blanks() {
        Edge.says("Promise 3 (ground), row 1", "blanks (32) may stand anywhere but within NUMBERS");
        good("  g  1  1  1  1  ;  ", 1);
        good("g 2 1 1 1 ; m 0 0 1 , 2 , 3 ; h 0 0 1 ; k 0 0 0 1 ; w 0 0 1 ; d 0 1 ; c 0 0 1 1 ;", 2);
        good("g2 1 1 1;m0 0 1,2,3;h0 0 1;k0 0 0 1;w0 0 1;d0 1;c0 0 1 1;", 2);
        bad("g1 1 1 1 1;", 1, 9);
        bad("g1 1 9 9 9;", 1, 9);
        bad("g1" + (char) 9 + "1 1 1;", 1, 2);
        bad("g1" + (char) 160 + "1 1 1;", 1, 2);
        bad("g1 1 1 1;" + (char) 10, 1, 9);
        bad("g1 1 1 1;" + (char) 0, 1, 9);
        good(" ".repeat(241) + "g1 1 1 1;", 1);
    }

    private static void sideBySide() {
        Edge.says("Promise 3 (ground), row 1", "two NUMBERS side by side need one");
        bad("g11 1 1;", 2, 1);
        bad("g1 11 1;", 2, 3);
        bad("g1 1 11;", 1, 7);
        badClause("d0300;", 2, 1);
        badClause("d030;", 1, 4);
        goodClause("m0 0 1,2;");
        badClause("m00 1,2;", 1, 5);
    }

    private static void oneLetterWords() {
        Edge.says("Promise 3 (ground), row 1", "a word is one letter");
        badClause("cc0 0 1 1;", 1, 1);
        badClause("c c0 0 1 1;", 1, 2);
        badClause("ch0 0 1;", 1, 1);
        Edge.says("Promise 3 (ground), row 1", "a letter that is no word");
        for (int letter = 0; letter <= 255; letter++) {
            boolean word = "cmhkwd".indexOf(letter) >= 0;
            if (letter == ' ') {
                goodClause("" + (char) letter);
            } else if (letter == 'g') {
                badClause("" + (char) letter, 3, 0);
            } else {
                badClause("" + (char) letter, 1, word ? 1 : 0);
            }
        }
    }

    private static void gIsFirst() {
        Edge.says("Promise 3 (ground), row 1", "another word first than 'g'");
        for (String clause : new String[] {"c0 0 1 1;", "m0 0 1,1;", "h0 0 1;", "k0 0 0 1;", "w0 0 1;", "d0 1;"}) {
            bad(clause, 1, 0);
            bad(" " + clause + "g1 1 1 1;", 1, 1);
        }
    }

    private static void gIsOnce() {
        Edge.says("Promise 3 (ground), row 1", "'g' again");
        bad("g1 1 1 1;g1 1 1 1;", 3, 9);
        bad("g1 1 1 1; g", 3, 10);
        badClause("h0 0 1;m0 0 1,1;g", 3, 16);
    }

    private static void asManyOfEachClause() {
        Edge.says("Promise 3 (ground), row 1",
            "a 13th 'c', a fourth 'm', a seventh 'h', 'k', a sixth 'w', a fifth 'd' (at it)");
        several('c', 12, " 1 1;");
        several('h', 6, " 1;");
        several('w', 5, " 1;");
        several('k', 6, " 0 1;");
        String moons = "m0 0 1,1;".repeat(3);
        goodClause(moons);
        badClause(moons + "m", 3, 27);
        badClause(moons + " m0 0 1,1;", 3, 28);
        Edge.due("three moons", Check.of(GROUND + moons).told(2), 3);
        String deeds = "d0 1;".repeat(4);
        goodClause(deeds);
        badClause(deeds + "d", 3, 20);
        badClause(deeds + " d0 1;", 3, 21);
        Edge.due("four deeds", Check.of(GROUND + deeds).told(6), 4);
    }

    private static void several(char word, int most, String rest) {
        StringBuilder clauses = new StringBuilder();
        for (int i = 0; i < most; i++) {
            clauses.append(word).append(i % 3).append(' ').append(i / 3).append(rest);
        }
        goodClause(clauses.toString());
        badClause(clauses.toString() + word, 3, clauses.length());
        badClause(clauses.toString() + word + "0 5" + rest, 3, clauses.length());
        badClause(clauses.toString() + word + "0 0" + rest, 3, clauses.length());
        badClause(clauses.toString() + " " + word + "99 99", 3, clauses.length() + 1);
    }

    private static void again() {
        Edge.says("Promise 3 (ground), row 1", "a CELL again (at its Y; 'k': at the D)");
        for (String rest : new String[] {"c 1 1;", "h 1;", "w 1;"}) {
            String one = rest.charAt(0) + "3 5" + rest.substring(1);
            String other = rest.charAt(0) + "3 4" + rest.substring(1);
            badClause(one + other + one, 4, 2 * one.length() + 3);
            badClause(one + one.substring(0, 4), 4, one.length() + 3);
            badClause(one + rest.charAt(0) + " 003   005", 4, one.length() + 8);
            goodClause(one + other);
        }
        goodClause("k0 0 0 1;k0 0 1 1;k1 0 0 1;k0 1 0 1;");
        badClause("k0 0 0 1;k0 0 1 1;k0 0 0 2;", 4, 23);
        badClause("k0 0 0 1;k0 0 1 1;k0 0   1", 4, 25);
        // Each kind for itself: a house, a well and a change may be on one cell.
        goodClause("c1 1 1 1;h1 1 1;w1 1 1;k1 1 0 1;k1 1 1 1;");
        // 1 0 is not 0 1, and neither is it told as one by its number 1.
        goodClause("h1 0 1;h0 1 1;w1 0 1;w0 1 1;c1 0 1 1;c0 1 1 1;");
    }

    private static void theEnd() {
        Edge.says("Promise 4 (fault), row 1", "(the end at the text's length)");
        String text = "g4 6 50 5;m0 0 1,1;";
        for (String clause : new String[] {"c0 0 1 1;", "m0 0 1,1;", "h0 0 1;", "k0 0 0 1;", "w0 0 1;", "d0 1;"}) {
            good(text + clause, 24);
            for (int n = 1; n < clause.length(); n++) {
                String part = text + clause.substring(0, n);
                bad(part, 1, part.length());
                bad(part + "  ", 1, part.length() + 2);
            }
        }
        for (int n = 1; n < 10; n++) {
            bad(text.substring(0, n), 1, n);
        }
    }

    private static final String[] CLAUSES = {"g4 6 50 5;", "c0 0 1 1;", "m0 0 1,1,1;", "h0 0 1;", "k0 0 0 1;", "w0 0 1;", "d0 1;"};

    /** Letters of a longer text before it must not be read behind the end. */
    private static void theEndOfAShorterText() {
        Edge.says("Promise 4 (fault), row 1", "(the end at the text's length)");
        for (String clause : CLAUSES) {
            String text = (clause.charAt(0) == 'g' ? "" : "g4 6 50 5;") + clause;
            for (int n = text.length() - clause.length() + 1; n < text.length(); n++) {
                TidedGround g = Check.fed(text);
                Edge.due("ground() of '" + text + "'", g.ground(), 24);
                Check.feed(g, text.substring(0, n));
                Edge.due("ground() of its first " + n + " letters", g.ground(), -11);
                Edge.due("fault() of its first " + n + " letters", g.fault(), n);
            }
        }
    }

    private static void theEndOf250Letters() {
        Edge.says("Promise 4 (fault), row 1", "(the end at the text's length)");
        for (String clause : CLAUSES) {
            String before = clause.charAt(0) == 'g' ? "" : "g4 6 50 5;";
            for (int n = 1; n < clause.length(); n++) {
                String text = before + " ".repeat(250 - before.length() - n) + clause.substring(0, n);
                Edge.due("letters", text.length(), 250);
                bad(text, 1, 250);
            }
            good(before + " ".repeat(250 - before.length() - clause.length()) + clause, 24);
        }
    }

    private static void theFirstLetter() {
        Edge.says("Promise 4 (fault), row 1", "FAULTS, at the first letter that has one");
        badClause("h0 0 100;x", 2, 5);
        badClause("h4 6 100;", 2, 1);
        badClause("h0 6 100;", 2, 3);
        badClause("h0 0 1;h0 0 100;", 4, 10);
        badClause("h0 0 1;h0 0x", 4, 10);
        badClause("d5 4x", 4, 3);
        badClause("d9 8;g", 4, 3);
        badClause("g9", 3, 0);
        badClause("k3 0 0 99;", 2, 5);
        badClause("k0 0 0 1;k0 0 0 99;", 4, 14);
        bad("g7 7 777 77", 2, 1);
        bad("g6 5 777 77", 2, 3);
        bad("g1 1 777 77", 2, 5);
        bad("g1 1 77 77", 2, 8);
        bad("g1 1 7 7x", 1, 8);
    }

    private static void theLeastOfOneLetter() {
        Edge.says("Promise 4 (fault), row 1", "of these the least");
        // 1 and 2: a number of four figures where none can stand.
        badClause("1234", 1, 0);
        bad("1234", 1, 0);
        badClause("h0 0 1 1234;", 1, 7);
        badClause("m0 0 1 1234", 1, 7);
        // 1 and 3: 'g' or one of too many within a clause.
        badClause("hg", 1, 1);
        badClause("m0 0 1,1;".repeat(3) + "h m", 1, 29);
        // 2 and 4: a cell again or a B below A, told by a number of four figures.
        badClause("h0 0 1;h0 0000 1;", 2, 10);
        badClause("w0 0 1;w0 0000 1;", 2, 10);
        badClause("c0 0 1 1;c0 0000 1;", 2, 12);
        badClause("k0 0 0 1;k0 0 0000 1;", 2, 14);
        badClause("d5 0004;", 2, 3);
    }

    private static void anEmptyText() {
        Edge.says("Promise 3 (ground), row 1", "An empty text: no CELLS.");
        good("", 0);
        TidedGround g = Edge.busy();
        g.ground();
        Edge.due("ground() of no letter, behind another", g.ground(), 0);
        for (int what = 0; what <= 14; what++) {
            Edge.due("told(" + what + ")", g.told(what), what == 9 ? 1 : what == 12 ? 20 : 0);
        }
        Edge.due("fault()", g.fault(), Check.NONE);
        Edge.due("cell(0, 0, 0)", g.cell(0, 0, 0), Check.UNKNOWN);
        Edge.due("roll(0)", g.roll(0), Check.NOT);
    }

    private static void theTextIsEmptyThen() {
        Edge.says("Promise 3 (ground)", "THE TEXT (it is empty then, with a FAULT, too)");
        TidedGround g = Check.fed("g1 1 1 1;");
        Edge.due("ground()", g.ground(), 1);
        Edge.due("told(7)", g.told(7), 0);
        Check.feed(g, "g2 1 1 1;x");
        Edge.due("ground() with a fault", g.ground(), -11);
        Edge.due("told(7) behind a fault", g.told(7), 0);
        Edge.due("feed behind a fault", g.feed('g'), 1);
        Check.feed(g, "3 1 1 1;");
        Edge.due("ground() of what came behind the fault", g.ground(), 3);
    }

    private static void numbersFrom0On() {
        Edge.says("Promise 3 (ground), Terms", "What has a number has it from 0 on, as it comes.");
        TidedGround g = Check.of("g3 1 0 1;m0 0 9,9,9;m0 0 9,9;h2 0 1;h0 0 2;k1 0 0 60;k0 0 0 0;w2 0 5;w1 0 1;d0 0;d100 100;");
        Edge.due("moon 0", g.moon(0, 0), 3);
        Edge.due("moon 1", g.moon(1, 0), 2);
        Edge.due("house 0", g.house(0, 0), 20);
        Edge.due("house 1", g.house(1, 0), 0);
        Edge.due("crack 0", g.crack(0, 0), 0);
        Edge.due("crack 1", g.crack(1, 0), 1);
        Edge.due("well 0 is wet", g.water(1, 0, 2), 1);
        Edge.due("deed 0", g.whose(0, 0), 0);
        Edge.due("deed 1", g.whose(1, 0), 7);
        for (int more = 2; more <= 3; more++) {
            Edge.due("moon " + more, g.moon(more, 0), Check.UNKNOWN);
            Edge.due("house " + more, g.house(more, 0), Check.UNKNOWN);
            Edge.due("crack " + more, g.crack(more, 0), Check.UNKNOWN);
            Edge.due("deed " + more, g.whose(more, 0), Check.UNKNOWN);
        }
    }

    private static void whatAGroundBegins() {
        Edge.says("Promise 3 (ground)",
            "STEP 0, SHIFTS, LOADS, PROPS, PUSHED 0, STEEP 20; nothing SEEN, no BOOK; IMAGES are gone; THE SEED stays");
        TidedGround g = Edge.busy();
        g.ground();
        Check.feed(g, Check.SMALL);
        Edge.due("ground()", g.ground(), 6);
        Edge.due("THE SEED", g.seed(0), 79);
        TidedGround fresh = Check.of(Check.SMALL);
        java.util.List<Integer> want = Edge.trace(fresh);
        java.util.List<Integer> got = Edge.trace(g);
        for (int i = 0; i < want.size(); i++) {
            Edge.due("answer " + i + " of a new ground", got.get(i), want.get(i));
        }
        // The image is gone, though its place was used before.
        Edge.due("goBack(0)", g.goBack(0), Check.NOT);
        Edge.due("goBack(1)", g.goBack(1), Check.NOT);
    }

    private static void aPoorGroundBehindARichOne() {
        Edge.says("Promise 3 (ground)", "becomes THE GROUND");
        String rich = "g4 2 7 3;c0 0 1 1;c1 0 1 9;m3 5 18,18;m3 5 18,17,18;m3 5 18,18;h0 0 1;k0 0 0 0;w0 0 1;d0 0;";
        for (String poor : new String[] {"", "g1 1 5 1;", "g2 2 7 3;m1 1 9,10,11;", "g3 1 7 3;m0 0 9,10;m1 0 9,9,12;"}) {
            TidedGround g = Check.of(rich);
            Check.feed(g, rich);
            Edge.due("ground() of the rich text again", g.ground(), 8);
            Check.feed(g, poor);
            g.ground();
            TidedGround fresh = Check.of(poor);
            Edge.due("fits of '" + poor + "'", g.fits(-1, 0), fresh.fits(-1, 0));
            for (int what = 0; what <= 2; what++) {
                Edge.due("look of '" + poor + "'", g.look(what), fresh.look(what));
            }
            Edge.due("see of '" + poor + "'", g.see(0, 0, 0, 10), fresh.see(0, 0, 0, 10));
            Edge.due("all that '" + poor + "' tells", Edge.trace(g).equals(Edge.trace(fresh)) ? 1 : 0, 1);
        }
    }

    private static void clausesAreCountedAnew() {
        Edge.says("Promise 3 (ground), row 1", "12 at most: BASE, SOFTNESS of one CELL in place of these; each once");
        TidedGround g = new TidedGround();
        StringBuilder most = new StringBuilder("g4 3 0 0;");
        for (int i = 0; i < 12; i++) {
            most.append("c").append(i % 4).append(' ').append(i / 4).append(" 1 1;");
        }
        for (int i = 0; i < 2; i++) {
            Check.feed(g, most.toString());
            Edge.due("ground() of twelve 'c', number " + i, g.ground(), 12);
        }
        Check.feed(g, "g4 3 0 0;c0 0 2 2;");
        Edge.due("ground() of one 'c' behind them", g.ground(), 12);
        Edge.due("its base", g.cell(0, 0, 0), 2);
        Edge.due("a base of the text before", g.cell(1, 0, 0), 0);
        TidedGround full = Check.of(Edge.FULLEST);
        Check.feed(full, "g2 1 1 1;m0 0 9,9;h0 0 1;k0 0 0 1;w0 0 1;d0 1;");
        Edge.due("ground() behind the fullest", full.ground(), 2);
        for (int what = 2; what <= 6; what++) {
            Edge.due("told(" + what + ") behind the fullest", full.told(what), 1);
        }
        TidedGround fault = Check.fed(most + "c0 0 1 1;");
        Edge.due("ground() of thirteen 'c'", fault.ground(), -13);
        Check.feed(fault, most.toString());
        Edge.due("ground() of twelve 'c' behind it", fault.ground(), 12);
    }

    private static void whatAFaultLeaves() {
        Edge.says("Promise 3 (ground)", "-10 less the number of its FAULT (all else is as it was)");
        String[] texts = {"x", "g3 2 1 1;m0 0 1,1;c0 0 0 0;h0 0 1;w0 0 1;k0 0 0 1;d0 1;h9", "g1 1 1 1;g", "g1 1 1 1;d1 0;"};
        for (int i = 0; i < texts.length; i++) {
            TidedGround left = Edge.busy();
            TidedGround tried = Edge.busy();
            left.ground();
            tried.ground();
            for (TidedGround g : new TidedGround[] {left, tried}) {
                Check.feed(g, "g2 1 4 1;m0 0 9,12;");
                g.ground();
                g.keep(0);
                g.pass(5);
                g.load(1, 0, 7);
                g.see(0, 0, 1, 7);
                g.write(2);
                g.seed(9);
            }
            Check.feed(tried, texts[i]);
            Edge.due("ground() of '" + texts[i] + "'", tried.ground(), -11 - i);
            // A good text behind it tells where the fault was no more.
            Edge.due("fault()", tried.fault() == Check.NONE ? 1 : 0, 0);
            java.util.List<Integer> want = Edge.trace(left);
            java.util.List<Integer> got = Edge.trace(tried);
            for (int k = 1; k < want.size(); k++) {
                Edge.due("answer " + k + " behind a fault", got.get(k), want.get(k));
            }
        }
    }

    private static void theLatestFault() {
        Edge.says("Promise 4 (fault)", "The letter of the FAULT of the latest ground(); NONE.");
        TidedGround g = new TidedGround();
        Edge.due("before any", g.fault(), Check.NONE);
        Check.feed(g, "x");
        Edge.due("before ground()", g.fault(), Check.NONE);
        g.ground();
        Edge.due("of 'x'", g.fault(), 0);
        Check.feed(g, "g1 1 1 1;  x");
        Edge.due("of 'x' still", g.fault(), 0);
        g.ground();
        Edge.due("of the second", g.fault(), 11);
        g.ground();
        Edge.due("of an empty text", g.fault(), Check.NONE);
        Check.feed(g, "g");
        g.ground();
        Edge.due("of 'g'", g.fault(), 1);
        g.pass(1);
        g.feed(300);
        Edge.due("other calls leave it", g.fault(), 1);
        Check.feed(g, "g1 1 1 1;");
        g.ground();
        Edge.due("of a good text", g.fault(), Check.NONE);
    }
}
