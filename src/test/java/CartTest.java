/** Promises 25 and 26: soonest, least. */
public final class CartTest {
    private static final int LAST = 900000;

    public static void main(String[] args) {
        soonest();
        soonestOverCracks();
        farAway();
        least();
        firstOfLikeOnes();
        againstAllBooks();
        Check.end();
    }

    private static void soonest() {
        TidedGround g = Check.of("g3 3 0 0;c1 0 30 0;c1 1 30 0;");
        Check.due("to itself", g.soonest(11, 11, 0), 0);
        Check.due("around the wall", g.soonest(0, 20, 0), 6);
        Check.due("down the wall", g.soonest(10, 20, 0), 1);
        Check.due("up the wall", g.soonest(0, 10, 0), Check.NONE);
        Check.due("from 900000", g.soonest(0, 20, LAST), 6);
        g.steep(30);
        Check.due("over the wall", g.soonest(0, 20, 0), 2);
        g.steep(29);
        Check.due("around the wall again", g.soonest(0, 20, 0), 6);
        Check.due("from 30", g.soonest(30, 0, 0), Check.UNKNOWN);
        Check.due("from 3", g.soonest(3, 0, 0), Check.UNKNOWN);
        Check.due("to -1", g.soonest(0, -1, 0), Check.UNKNOWN);
        Check.due("to 100, no step", g.soonest(0, 100, -1), Check.UNKNOWN);
        Check.due("step -1", g.soonest(0, 0, -1), Check.OUTSIDE);
        Check.due("step 900001", g.soonest(0, 0, LAST + 1), Check.OUTSIDE);
        Check.due("from -10", g.soonest(-10, 0, 0), Check.UNKNOWN);
        Check.due("nothing was moved", g.told(10) + g.told(8), 0);
    }

    private static void soonestOverCracks() {
        // Open but at steps that leave 4 by 5: pull is -1 then, 0 else.
        TidedGround g = Check.of("g2 1 0 0;m0 0 9,9,9,9,8;k0 0 0 29;");
        Check.due("from 0, over at 4", g.soonest(0, 10, 0), 4);
        Check.due("from 3, over at 4", g.soonest(0, 10, 3), 1);
        Check.due("from 4, over at 9", g.soonest(0, 10, 4), 5);
        Check.due("back from 4", g.soonest(10, 0, 4), 5);
        // The slope passes with the moon: a step is level but once in 3.
        TidedGround hill = Check.of("g2 1 0 0;c1 0 40 9;m0 0 9,9,6;");
        Check.due("when the hill is low", hill.soonest(0, 10, 0), 2);
        Check.due("from 2, when it is low again", hill.soonest(0, 10, 2), 3);
    }

    private static void farAway() {
        // A moon of 9, 8 and 7: the crack is shut once in 504 steps, at 503.
        TidedGround g = Check.of("g2 1 0 0;m0 0 9,9,9,9,9,9,8;m0 0 9,9,9,9,9,9,9,8;m0 0 9,9,9,9,9,9,9,9,8;k0 0 0 27;");
        Check.due("60 steps", g.soonest(0, 10, 443), 60);
        Check.due("61 steps", g.soonest(0, 10, 442), Check.NONE);
        Check.due("least within 40", g.least(0, 10, 463, 40, -1), 0);
        Check.due("least in 41", g.least(0, 10, 462, 40, -1), Check.NONE);
        Check.due("the last of 40 steps", g.least(0, 10, 463, 40, 39), 2);
        Check.due("the 39th of 40 steps", g.least(0, 10, 463, 40, 38), 0);
        Check.due("step 40 of 40", g.least(0, 10, 463, 40, 40), Check.NONE);
    }

    private static void least() {
        TidedGround g = Check.of("g3 2 0 0;c1 0 5 0;c2 0 3 0;");
        Check.due("over the hill", g.least(0, 20, 0, 2, -1), 5);
        Check.due("its step 0", g.least(0, 20, 0, 2, 0), 2);
        Check.due("its step 1", g.least(0, 20, 0, 2, 1), 2);
        Check.due("its step 2", g.least(0, 20, 0, 2, 2), Check.NONE);
        Check.due("three do no better", g.least(0, 20, 0, 3, -1), 5);
        Check.due("around, up 3 at its end", g.least(0, 20, 0, 4, -1), 3);
        Check.due("around: south", g.least(0, 20, 0, 4, 0), 3);
        Check.due("around: east", g.least(0, 20, 0, 4, 1), 2);
        Check.due("around: east again", g.least(0, 20, 0, 4, 2), 2);
        Check.due("around: north", g.least(0, 20, 0, 4, 3), 1);
        Check.due("with time, it stays first", g.least(0, 20, 0, 6, 1), 0);
        Check.due("with time, then south", g.least(0, 20, 0, 6, 2), 3);
        Check.due("too far", g.least(0, 20, 0, 1, -1), Check.NONE);
        Check.due("too far, step 0", g.least(0, 20, 0, 1, 0), Check.NONE);
        Check.due("to itself", g.least(20, 20, 0, 40, -1), 0);
        Check.due("to itself, no step", g.least(20, 20, 0, 40, 0), Check.NONE);
        Check.due("no step -2", g.least(0, 20, 0, 4, -2), Check.NONE);
        Check.due("no step far off", g.least(0, 20, 0, 4, Integer.MAX_VALUE), Check.NONE);
        Check.due("from 900000", g.least(0, 20, LAST, 4, -1), 3);
        g.steep(2);
        Check.due("too steep", g.least(0, 20, 0, 40, -1), Check.NONE);
        Check.due("from 30, no step", g.least(30, 0, -1, 0, 0), Check.UNKNOWN);
        Check.due("to 2", g.least(0, 2, 0, 1, 0), Check.UNKNOWN);
        Check.due("step -1", g.least(0, 0, -1, 1, -1), Check.OUTSIDE);
        Check.due("step 900001", g.least(0, 0, LAST + 1, 1, -1), Check.OUTSIDE);
        Check.due("n 0", g.least(0, 0, 0, 0, -1), Check.OUTSIDE);
        Check.due("n 41", g.least(0, 0, 0, 41, -1), Check.OUTSIDE);
        Check.due("nothing was moved", g.told(10) + g.told(8) + g.told(11), 0);
    }

    private static void firstOfLikeOnes() {
        TidedGround flat = Check.of("g3 3 0 0;");
        int[] want = {2, 2, 3, 3};
        for (int i = 0; i < 4; i++) {
            Check.due("east before south, step " + i, flat.least(0, 22, 0, 4, i), want[i]);
        }
        int[] back = {1, 1, 4, 4};
        for (int i = 0; i < 4; i++) {
            Check.due("north before west, step " + i, flat.least(22, 0, 0, 4, i), back[i]);
        }
        int[] down = {3, 3, 4, 4};
        for (int i = 0; i < 4; i++) {
            Check.due("south before west, step " + i, flat.least(20, 2, 0, 4, i), down[i]);
        }
        int[] late = {0, 0, 2};
        for (int i = 0; i < 3; i++) {
            Check.due("staying before all, step " + i, flat.least(0, 10, 0, 3, i), late[i]);
        }
        Check.due("it ends when it is there", flat.least(0, 10, 0, 3, 3), Check.NONE);
    }

    /** Each book of three steps is judged; the best that is there at its end (or before) must be what least tells. */
    private static void againstAllBooks() {
        String text = "g2 2 10 3;c1 1 20 5;m1 2 10,12,8;m3 1 9,11,6,9;k0 0 0 31;k0 0 1 30;";
        for (int t = 1; t < 24; t++) {
            int best = Check.NONE;
            int[] bestBook = null;
            for (int code = 0; code < 125; code++) {
                int[] book = {code / 25, code / 5 % 5, code % 5};
                int length = stepsTo11(text, t, book);
                if (length == Check.NONE) {
                    continue;
                }
                int pushed = judged(text, t, book, length);
                if (best == Check.NONE || pushed < best) {
                    best = pushed;
                    bestBook = java.util.Arrays.copyOf(book, length);
                }
            }
            TidedGround g = Check.of(text);
            Check.due("least at " + t, g.least(0, 11, t, 3, -1), best);
            for (int i = 0; i < 4; i++) {
                int want = bestBook == null || i >= bestBook.length ? Check.NONE : bestBook[i];
                Check.due("least at " + t + ", step " + i, g.least(0, 11, t, 3, i), want);
            }
        }
    }

    /** After how many steps the cart is at 1 1 first; NONE: not, or a step may not be. */
    private static int stepsTo11(String text, int t, int[] book) {
        TidedGround g = Check.of(text);
        g.pass(t);
        for (int i = 0; i < book.length; i++) {
            if (g.roll(book[i]) < 0) {
                return Check.NONE;
            }
            if (g.told(10) == 11) {
                return i + 1;
            }
        }
        return Check.NONE;
    }

    private static int judged(String text, int t, int[] book, int length) {
        TidedGround g = Check.of(text);
        g.pass(t);
        for (int i = 0; i < length; i++) {
            g.write(book[i]);
        }
        return g.judge(1);
    }
}
