import java.util.TreeSet;

/**
 * Every refusal that a promise names, and which of several comes first. Each call is made on one of two like objects:
 * "What is refused changes nothing", so that both must answer alike behind it.
 */
public final class EdgeRefusalTest {
    private static final int UNKNOWN = Check.UNKNOWN;
    private static final int OUTSIDE = Check.OUTSIDE;
    private static final int NOT = Check.NOT;
    private static final int FULL = Check.FULL;

    private static final TreeSet<Integer> promises = new TreeSet<>();
    private static int promise;

    public static void main(String[] args) {
        theGround();
        whatIsDone();
        when();
        theCartTried();
        wellsAndDeeds();
        whatWasSeen();
        booksDrawsImages();
        thereAreTests();
        Check.end();
    }

    /** The calls behind it are those of this promise. */
    private static void of(int number, String words) {
        promise = number;
        Edge.says("Promise " + number + ", Terms", words);
    }

    private static void no(String call, Edge.Make make, Edge.Call asked, int want) {
        promises.add(promise);
        Edge.refused(call, make, asked, want);
    }

    private static void busy(String call, int want, Edge.Call asked) {
        no(call, Edge::busy, asked, want);
    }

    private static void none(String call, int want, Edge.Call asked) {
        no(call + " without cells", EdgeRefusalTest::noCells, asked, want);
    }

    /** No ground, but a life before it: its text, its book and its images hold something. */
    private static TidedGround noCells() {
        TidedGround g = new TidedGround();
        g.pass(4);
        g.steep(5);
        g.seed(6);
        g.write(2);
        g.keep(0);
        g.pass(9);
        g.seed(7);
        Check.feed(g, "g1 1 1 1;");
        return g;
    }

    private static TidedGround fullText() {
        TidedGround g = Check.of("g2 1 5 1;m0 0 9,10;h0 0 1;");
        Check.feed(g, " ".repeat(233) + "g2 2 1 1;h0 0 99;");
        return g;
    }

    /** At the last step, its cart at 1 0 with cells to go to in the west and the south. */
    private static TidedGround atTheEnd() {
        TidedGround g = Check.of("g2 2 5 1;m0 0 9,10;h0 0 1;");
        g.roll(2);
        g.keep(0);
        g.seed(9);
        g.write(4);
        return Edge.waited(g, Edge.LAST_STEP);
    }

    private static TidedGround fullBook() {
        TidedGround g = Check.of("g2 1 5 1;c1 0 9 1;m0 0 9,10;");
        g.see(0, 0, 0, 5);
        for (int i = 0; i < 30; i++) {
            g.write(i % 2 == 0 ? 2 : 4);
        }
        return g;
    }

    private static TidedGround fullSeen() {
        TidedGround g = Check.of("g2 1 5 1;m0 0 9,10,11;");
        for (int i = 0; i < 12; i++) {
            g.see(0, 0, i, 5 + i % 3);
        }
        return g;
    }

    private static void theGround() {
        of(2, "OUTSIDE, FULL (250)");
        busy("feed(-1)", OUTSIDE, g -> g.feed(-1));
        busy("feed(256)", OUTSIDE, g -> g.feed(256));
        no("feed of a full text", EdgeRefusalTest::fullText, g -> g.feed('x'), FULL);
        no("feed(256) of a full text", EdgeRefusalTest::fullText, g -> g.feed(256), OUTSIDE);
        no("feed(-1) of a full text", EdgeRefusalTest::fullText, g -> g.feed(-1), OUTSIDE);
        of(5, "OUTSIDE");
        busy("told(-1)", OUTSIDE, g -> g.told(-1));
        busy("told(15)", OUTSIDE, g -> g.told(15));
        of(6, "UNKNOWN, OUTSIDE.");
        busy("cell(3, 0, 0)", UNKNOWN, g -> g.cell(3, 0, 0));
        busy("cell(0, 2, 7)", UNKNOWN, g -> g.cell(0, 2, 7));
        busy("cell(0, 0, 7)", OUTSIDE, g -> g.cell(0, 0, 7));
        none("cell(0, 0, 7)", UNKNOWN, g -> g.cell(0, 0, 7));
        of(7, "UNKNOWN, OUTSIDE.");
        busy("height(3, 0, 0)", UNKNOWN, g -> g.height(3, 0, 0));
        busy("height(0, -1, 1000000)", UNKNOWN, g -> g.height(0, -1, 1000000));
        busy("height(0, 0, 1000000)", OUTSIDE, g -> g.height(0, 0, 1000000));
        none("height(0, 0, -1)", UNKNOWN, g -> g.height(0, 0, -1));
        of(8, "UNKNOWN, OUTSIDE.");
        busy("moon(2, 0)", UNKNOWN, g -> g.moon(2, 0));
        busy("moon(2, 5)", UNKNOWN, g -> g.moon(2, 5));
        busy("moon(1, 5)", OUTSIDE, g -> g.moon(1, 5));
        none("moon(0, 5)", UNKNOWN, g -> g.moon(0, 5));
        of(9, "UNKNOWN, OUTSIDE.");
        busy("house(1, 0)", UNKNOWN, g -> g.house(1, 0));
        busy("house(1, 5)", UNKNOWN, g -> g.house(1, 5));
        busy("house(0, 5)", OUTSIDE, g -> g.house(0, 5));
        none("house(0, 5)", UNKNOWN, g -> g.house(0, 5));
        of(10, "UNKNOWN, OUTSIDE (0 .. 999999).");
        busy("crack(1, 0)", UNKNOWN, g -> g.crack(1, 0));
        busy("crack(1, -1)", UNKNOWN, g -> g.crack(1, -1));
        busy("crack(0, -1)", OUTSIDE, g -> g.crack(0, -1));
        none("crack(0, -1)", UNKNOWN, g -> g.crack(0, -1));
    }

    private static void whatIsDone() {
        of(11, "OUTSIDE, FULL: it would be above 900000");
        busy("pass(0)", OUTSIDE, g -> g.pass(0));
        busy("pass(10000)", OUTSIDE, g -> g.pass(10000));
        no("pass(1) at the end", EdgeRefusalTest::atTheEnd, g -> g.pass(1), FULL);
        no("pass(9999) at the end", EdgeRefusalTest::atTheEnd, g -> g.pass(9999), FULL);
        no("pass(0) at the end", EdgeRefusalTest::atTheEnd, g -> g.pass(0), OUTSIDE);
        no("pass(10000) at the end", EdgeRefusalTest::atTheEnd, g -> g.pass(10000), OUTSIDE);
        of(12, "OUTSIDE, NOT: it may not, no CELLS, FULL: THE STEP is 900000.");
        busy("roll(-1)", OUTSIDE, g -> g.roll(-1));
        busy("roll(5)", OUTSIDE, g -> g.roll(5));
        busy("roll(4) off the ground", NOT, g -> g.roll(4));
        none("roll(0)", NOT, g -> g.roll(0));
        none("roll(5)", OUTSIDE, g -> g.roll(5));
        no("roll(0) at the end", EdgeRefusalTest::atTheEnd, g -> g.roll(0), FULL);
        no("roll(4) at the end", EdgeRefusalTest::atTheEnd, g -> g.roll(4), FULL);
        no("roll(1) at the end, off the ground", EdgeRefusalTest::atTheEnd, g -> g.roll(1), NOT);
        no("roll(5) at the end", EdgeRefusalTest::atTheEnd, g -> g.roll(5), OUTSIDE);
        of(13, "OUTSIDE");
        busy("steep(-1)", OUTSIDE, g -> g.steep(-1));
        busy("steep(100)", OUTSIDE, g -> g.steep(100));
        of(14, "UNKNOWN, OUTSIDE.");
        busy("load(3, 0, 1)", UNKNOWN, g -> g.load(3, 0, 1));
        busy("load(0, 2, 91)", UNKNOWN, g -> g.load(0, 2, 91));
        busy("load(0, 0, 91)", OUTSIDE, g -> g.load(0, 0, 91));
        busy("load(0, 0, -1)", OUTSIDE, g -> g.load(0, 0, -1));
        none("load(0, 0, 91)", UNKNOWN, g -> g.load(0, 0, 91));
        of(15, "UNKNOWN, OUTSIDE.");
        busy("prop(1, 1)", UNKNOWN, g -> g.prop(1, 1));
        busy("prop(1, 1000)", UNKNOWN, g -> g.prop(1, 1000));
        busy("prop(0, 1000)", OUTSIDE, g -> g.prop(0, 1000));
        busy("prop(0, -1)", OUTSIDE, g -> g.prop(0, -1));
        none("prop(0, 1000)", UNKNOWN, g -> g.prop(0, 1000));
        of(16, "UNKNOWN, OUTSIDE.");
        busy("shift(2, 1)", UNKNOWN, g -> g.shift(2, 1));
        busy("shift(2, 1000)", UNKNOWN, g -> g.shift(2, 1000));
        busy("shift(0, 1000)", OUTSIDE, g -> g.shift(0, 1000));
        busy("shift(0, -1)", OUTSIDE, g -> g.shift(0, -1));
        none("shift(0, 1000)", UNKNOWN, g -> g.shift(0, 1000));
        of(17, "OUTSIDE, NOT: no CELLS, FULL: THE STEP is above 899000.");
        busy("drift(0)", OUTSIDE, g -> g.drift(0));
        busy("drift(100)", OUTSIDE, g -> g.drift(100));
        none("drift(1)", NOT, g -> g.drift(1));
        none("drift(0)", OUTSIDE, g -> g.drift(0));
        no("drift(1) at the end", EdgeRefusalTest::atTheEnd, g -> g.drift(1), FULL);
        no("drift(100) at the end", EdgeRefusalTest::atTheEnd, g -> g.drift(100), OUTSIDE);
        no("drift(1) at the end, without cells", () -> Edge.waited(noCells(), Edge.LAST_STEP), g -> g.drift(1), NOT);
        no("roll(0) at the end, without cells", () -> Edge.waited(noCells(), Edge.LAST_STEP), g -> g.roll(0), NOT);
    }

    private static void when() {
        of(18, "UNKNOWN, OUTSIDE.");
        busy("level(64, 0, 0)", UNKNOWN, g -> g.level(64, 0, 0));
        busy("level(65, 100, -1)", UNKNOWN, g -> g.level(65, 100, -1));
        busy("level(0, 0, 0)", OUTSIDE, g -> g.level(0, 0, 0));
        busy("level(1, 100, 0)", OUTSIDE, g -> g.level(1, 100, 0));
        busy("level(1, 0, 900001)", OUTSIDE, g -> g.level(1, 0, 900001));
        none("level(1, 100, 0)", UNKNOWN, g -> g.level(1, 100, 0));
        of(19, "OUTSIDE, NOT: no CELLS.");
        busy("aslant(900001)", OUTSIDE, g -> g.aslant(900001));
        none("aslant(0)", NOT, g -> g.aslant(0));
        none("aslant(-1)", OUTSIDE, g -> g.aslant(-1));
        of(20, "UNKNOWN, OUTSIDE (t 1 .. 900000).");
        busy("turn(3, 0, 1)", UNKNOWN, g -> g.turn(3, 0, 1));
        busy("turn(3, 0, 0)", UNKNOWN, g -> g.turn(3, 0, 0));
        busy("turn(0, 0, 0)", OUTSIDE, g -> g.turn(0, 0, 0));
        none("turn(0, 0, 0)", UNKNOWN, g -> g.turn(0, 0, 0));
        of(21, "UNKNOWN, OUTSIDE.");
        busy("most(3, 0, 0, 0)", UNKNOWN, g -> g.most(3, 0, 0, 0));
        busy("most(3, 0, -1, 2)", UNKNOWN, g -> g.most(3, 0, -1, 2));
        busy("most(0, 0, 0, 2)", OUTSIDE, g -> g.most(0, 0, 0, 2));
        busy("most(0, 0, -1, 0)", OUTSIDE, g -> g.most(0, 0, -1, 0));
        none("most(0, 0, 0, 2)", UNKNOWN, g -> g.most(0, 0, 0, 2));
        of(22, "UNKNOWN, OUTSIDE.");
        busy("bell(3, 0, 0, 0, 0)", UNKNOWN, g -> g.bell(3, 0, 0, 0, 0));
        busy("bell(3, 0, 1000, -1, 2)", UNKNOWN, g -> g.bell(3, 0, 1000, -1, 2));
        busy("bell(0, 0, 1000, 0, 0)", OUTSIDE, g -> g.bell(0, 0, 1000, 0, 0));
        busy("bell(0, 0, 0, -1, 0)", OUTSIDE, g -> g.bell(0, 0, 0, -1, 0));
        busy("bell(0, 0, 0, 0, 2)", OUTSIDE, g -> g.bell(0, 0, 0, 0, 2));
        none("bell(0, 0, 1000, 0, 0)", UNKNOWN, g -> g.bell(0, 0, 1000, 0, 0));
        of(23, "OUTSIDE.");
        busy("breaks(-1, 0)", OUTSIDE, g -> g.breaks(-1, 0));
        busy("breaks(0, 2)", OUTSIDE, g -> g.breaks(0, 2));
        none("breaks(0, 2)", OUTSIDE, g -> g.breaks(0, 2));
        of(24, "OUTSIDE.");
        busy("props(0)", OUTSIDE, g -> g.props(0));
        busy("props(21)", OUTSIDE, g -> g.props(21));
        none("props(0)", OUTSIDE, g -> g.props(0));
    }

    private static void theCartTried() {
        of(25, "UNKNOWN, OUTSIDE.");
        busy("soonest(30, 0, 0)", UNKNOWN, g -> g.soonest(30, 0, 0));
        busy("soonest(0, 2, -1)", UNKNOWN, g -> g.soonest(0, 2, -1));
        busy("soonest(0, 0, -1)", OUTSIDE, g -> g.soonest(0, 0, -1));
        none("soonest(0, 0, -1)", UNKNOWN, g -> g.soonest(0, 0, -1));
        of(26, "UNKNOWN, OUTSIDE.");
        busy("least(30, 0, 0, 1, 0)", UNKNOWN, g -> g.least(30, 0, 0, 1, 0));
        busy("least(0, 2, -1, 41, 0)", UNKNOWN, g -> g.least(0, 2, -1, 41, 0));
        busy("least(0, 0, -1, 1, 0)", OUTSIDE, g -> g.least(0, 0, -1, 1, 0));
        busy("least(0, 0, 0, 41, 0)", OUTSIDE, g -> g.least(0, 0, 0, 41, 0));
        none("least(0, 0, 0, 0, 0)", UNKNOWN, g -> g.least(0, 0, 0, 0, 0));
    }

    private static void wellsAndDeeds() {
        of(27, "OUTSIDE, NOT: no WELLS.");
        busy("water(-1, 0, 0)", OUTSIDE, g -> g.water(-1, 0, 0));
        busy("water(0, 900001, 0)", OUTSIDE, g -> g.water(0, 900001, 0));
        busy("water(0, 0, 3)", OUTSIDE, g -> g.water(0, 0, 3));
        none("water(0, 0, 0)", NOT, g -> g.water(0, 0, 0));
        none("water(0, 0, 3)", OUTSIDE, g -> g.water(0, 0, 3));
        no("water(0, 0, 0) without wells", EdgeRefusalTest::fullSeen, g -> g.water(0, 0, 0), NOT);
        no("water(10000, 0, 0) without wells", EdgeRefusalTest::fullSeen, g -> g.water(10000, 0, 0), OUTSIDE);
        of(28, "UNKNOWN, OUTSIDE (0 .. 900000).");
        busy("whose(1, 0)", UNKNOWN, g -> g.whose(1, 0));
        busy("whose(1, -1)", UNKNOWN, g -> g.whose(1, -1));
        busy("whose(0, 900001)", OUTSIDE, g -> g.whose(0, 900001));
        none("whose(0, -1)", UNKNOWN, g -> g.whose(0, -1));
        of(29, "UNKNOWN.");
        busy("stays(1)", UNKNOWN, g -> g.stays(1));
        busy("stays(-1)", UNKNOWN, g -> g.stays(-1));
        none("stays(0)", UNKNOWN, g -> g.stays(0));
    }

    private static void whatWasSeen() {
        of(30, "UNKNOWN, OUTSIDE, FULL (12).");
        busy("see(3, 0, 0, 12)", UNKNOWN, g -> g.see(3, 0, 0, 12));
        busy("see(3, 0, 1000, 1000)", UNKNOWN, g -> g.see(3, 0, 1000, 1000));
        busy("see(0, 0, 1000, 12)", OUTSIDE, g -> g.see(0, 0, 1000, 12));
        busy("see(0, 0, 0, -1000)", OUTSIDE, g -> g.see(0, 0, 0, -1000));
        none("see(0, 0, 0, 1000)", UNKNOWN, g -> g.see(0, 0, 0, 1000));
        no("see of a thirteenth", EdgeRefusalTest::fullSeen, g -> g.see(0, 0, 0, 99), FULL);
        no("see of a thirteenth at 1000", EdgeRefusalTest::fullSeen, g -> g.see(0, 0, 1000, 99), OUTSIDE);
        no("see of a thirteenth of no cell", EdgeRefusalTest::fullSeen, g -> g.see(2, 0, 1000, 99), UNKNOWN);
        of(31, "UNKNOWN (k).");
        busy("fits(0, 2)", UNKNOWN, g -> g.fits(0, 2));
        busy("fits(99, -1)", UNKNOWN, g -> g.fits(99, -1));
        none("fits(0, 0)", UNKNOWN, g -> g.fits(0, 0));
        of(32, "OUTSIDE.");
        busy("look(-1)", OUTSIDE, g -> g.look(-1));
        busy("look(3)", OUTSIDE, g -> g.look(3));
        none("look(3)", OUTSIDE, g -> g.look(3));
        of(33, "UNKNOWN, OUTSIDE.");
        busy("odds(2, 0, 0, 0, 0, 0)", UNKNOWN, g -> g.odds(2, 0, 0, 0, 0, 0));
        busy("odds(0, 0, 3, 0, 0, 0)", UNKNOWN, g -> g.odds(0, 0, 3, 0, 0, 0));
        busy("odds(2, 101, 3, 0, -1, -1)", UNKNOWN, g -> g.odds(2, 101, 3, 0, -1, -1));
        busy("odds(0, 101, 0, 0, 0, 0)", OUTSIDE, g -> g.odds(0, 101, 0, 0, 0, 0));
        busy("odds(0, 0, 0, 0, 1000, 0)", OUTSIDE, g -> g.odds(0, 0, 0, 0, 1000, 0));
        busy("odds(0, 0, 0, 0, 0, 900001)", OUTSIDE, g -> g.odds(0, 0, 0, 0, 0, 900001));
        none("odds(0, 101, 0, 0, 0, 0)", UNKNOWN, g -> g.odds(0, 101, 0, 0, 0, 0));
    }

    private static void booksDrawsImages() {
        of(34, "OUTSIDE, FULL (30).");
        busy("write(-1)", OUTSIDE, g -> g.write(-1));
        busy("write(5)", OUTSIDE, g -> g.write(5));
        no("write of a 31st", EdgeRefusalTest::fullBook, g -> g.write(0), FULL);
        no("write(5) of a 31st", EdgeRefusalTest::fullBook, g -> g.write(5), OUTSIDE);
        of(36, "OUTSIDE, NOT: no CELLS.");
        busy("judge(-1)", OUTSIDE, g -> g.judge(-1));
        busy("judge(2)", OUTSIDE, g -> g.judge(2));
        none("judge(0)", NOT, g -> g.judge(0));
        none("judge(2)", OUTSIDE, g -> g.judge(2));
        of(37, "OUTSIDE.");
        busy("seed(-1)", OUTSIDE, g -> g.seed(-1));
        busy("seed(-2147483648)", OUTSIDE, g -> g.seed(Edge.LEAST));
        of(38, "UNKNOWN.");
        busy("keep(-1)", UNKNOWN, g -> g.keep(-1));
        busy("keep(2)", UNKNOWN, g -> g.keep(2));
        of(39, "UNKNOWN, NOT: it was not kept.");
        busy("goBack(-1)", UNKNOWN, g -> g.goBack(-1));
        busy("goBack(2)", UNKNOWN, g -> g.goBack(2));
        no("goBack(1), 0 alone kept", EdgeRefusalTest::atTheEnd, g -> g.goBack(1), NOT);
        no("goBack(0), none kept", EdgeRefusalTest::fullBook, g -> g.goBack(0), NOT);
        none("goBack(1)", NOT, g -> g.goBack(1));
    }

    /** Promises 1, 3, 4 and 35 name no refusal. */
    private static void thereAreTests() {
        for (int number = 1; number <= 39; number++) {
            boolean refusesNothing = number == 1 || number == 3 || number == 4 || number == 35;
            Check.due("refusals of promise " + number, promises.contains(number) ? 1 : 0, refusesNothing ? 0 : 1);
        }
    }
}
