import java.util.ArrayList;
import java.util.List;

/**
 * What the tests of the document's edges share: the sentence that is held to, ready objects, and twins by which a call
 * that was refused is seen to have changed nothing.
 */
final class Edge {
    static final int LEAST = Integer.MIN_VALUE;
    static final int GREATEST = Integer.MAX_VALUE;
    static final int LAST_STEP = 900000;
    static final int LAST_TOLD = 999999;

    /** 24 cells, all numbered things as many as may be but for 'c': exactly 250 letters. */
    static final String FULLEST = "g6 4 50 9;c0 0 0 0;c1 0 1 1;c2 0 2 2;c3 0 3 3;c4 0 4 4;c5 0 5 5;"
        + "m1 0 9,9;m0 1 9,8;m1 1 9,7;h0 0 9;h1 0 8;h2 0 7;h3 0 6;h4 0 5;h5 3 4;"
        + "k0 0 0 9;k0 0 1 8;k1 0 0 7;k1 0 1 6;k4 3 0 5;k5 2 1 4;w0 0 9;w1 0 8;w2 0 7;w3 0 6;w5 3 5;d0 9;d1 9;d2 9;d3 9;        ";

    /** Pulls of 0 but at steps that leave 503 by 504, where three moons pull -1 each. */
    static final String RARE_MOONS = "m0 0 9,9,9,9,9,9,8;m0 0 9,9,9,9,9,9,9,8;m0 0 9,9,9,9,9,9,9,9,8;";

    /** The same upside down: a pull of 3 once in 504 steps, and 2 at most else. */
    static final String RARE_LIFT = "m0 0 9,9,9,9,9,9,10;m0 0 9,9,9,9,9,9,9,10;m0 0 9,9,9,9,9,9,9,9,10;";

    private static String sentence = "";

    interface Call {
        int on(TidedGround g);
    }

    interface Make {
        TidedGround anew();
    }

    private Edge() {
    }

    /** Names the promise and the words of the document that the checks behind it hold to. */
    static void says(String promise, String words) {
        sentence = promise + ", \"" + words + "\": ";
    }

    static void due(String call, long got, long want) {
        Check.due(sentence + call, got, want);
    }

    /** The number is refused as OUTSIDE just past both ends and far out. */
    static void outsideOf(String call, int low, int high, TidedGround g, java.util.function.IntFunction<Call> by) {
        for (int v : new int[] {low - 1, high + 1, LEAST, GREATEST}) {
            if (v < low || v > high) {
                due(call + " by " + v, by.apply(v).on(g), Check.OUTSIDE);
            }
        }
    }

    /** A call on one of two like objects is refused as it should be, and both answer alike behind it. */
    static void refused(String call, Make make, Call asked, int want) {
        TidedGround left = make.anew();
        TidedGround tried = make.anew();
        due(call, asked.on(tried), want);
        List<Integer> before = trace(left);
        List<Integer> behind = trace(tried);
        for (int i = 0; i < before.size(); i++) {
            if (!before.get(i).equals(behind.get(i))) {
                due(call + " changed answer " + i + " of what is so", behind.get(i), before.get(i));
            }
        }
    }

    /** Answers that tell all that an object holds, its images and its text too; the object is spent then. */
    static List<Integer> trace(TidedGround g) {
        List<Integer> all = new ArrayList<>();
        all.add(g.fault());
        for (int what = 0; what <= 14; what++) {
            all.add(g.told(what));
        }
        for (int what = 0; what <= 1; what++) {
            all.add(g.judge(what));
            all.add(g.cell(0, 0, what));
            all.add(g.cell(1, 0, what));
        }
        for (int i = -1; i <= 1; i++) {
            all.add(g.fits(i, 0));
        }
        all.add(g.look(0));
        traceState(g, all);
        for (int i = 0; i <= 1; i++) {
            all.add(g.goBack(i));
            traceState(g, all);
        }
        all.add(g.ground());
        all.add(g.fault());
        for (int what = 0; what <= 6; what++) {
            all.add(g.told(what));
        }
        return all;
    }

    private static void traceState(TidedGround g, List<Integer> all) {
        for (int what : new int[] {8, 10, 11, 12}) {
            all.add(g.told(what));
        }
        for (int i = 0; i < 3; i++) {
            all.add(g.moon(i, 3));
            all.add(g.house(i, 2));
            all.add(g.cell(i, 0, 2));
            all.add(g.cell(i, 1, 2));
        }
        all.add(g.seed(1));
    }

    /** An object in the middle of its life: no number of it is what it was at first, and a text has begun. */
    static TidedGround busy() {
        TidedGround g = Check.of(Check.SMALL);
        g.pass(3);
        g.shift(0, 1);
        g.load(0, 0, 10);
        g.prop(0, 9);
        g.seed(77);
        g.keep(0);
        g.steep(21);
        g.roll(0);
        g.roll(2);
        g.roll(3);
        g.roll(4);
        g.shift(1, 1);
        g.load(1, 1, 15);
        g.prop(0, 5);
        g.seed(78);
        g.keep(1);
        g.pass(2);
        g.load(2, 0, 25);
        g.seed(79);
        g.see(0, 0, 0, 12);
        g.write(2);
        g.write(3);
        g.write(1);
        Check.feed(g, "g2 2 1 1;");
        return g;
    }

    /** The object at this step, which its cart has waited for. */
    static TidedGround waited(TidedGround g, int step) {
        int left = step - g.told(8);
        while (left > 0) {
            int n = Math.min(9999, left);
            g.pass(n);
            left -= n;
        }
        due("waiting for step " + step, g.told(8), step);
        return g;
    }

    static TidedGround late(String text, int step) {
        return waited(Check.of(text), step);
    }
}
