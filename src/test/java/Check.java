/** What the tests share: a ground made of a text, and a count of answers that are not as due. */
final class Check {
    static final int NONE = -1, UNKNOWN = -1000000001, OUTSIDE = -1000000002, NOT = -1000000003, FULL = -1000000004;

    /** Two moons of 3 and 2, a hard cell 2 1, a house, a crack, three wells, a deed. */
    static final String SMALL = "g3 2 10 2;m1 0 10,12,8;m0 1 9,11;c2 1 5 0;h1 0 6;k0 0 0 31;w0 0 9;w2 0 3;w1 1 0;d106 112;";

    private static int wrong = 0;
    private static int calls = 0;

    private Check() {
    }

    static void due(String call, long got, long want) {
        calls++;
        if (got != want) {
            wrong++;
            System.out.println(call + " answered " + got + ", due is " + want);
        }
    }

    static TidedGround fed(String text) {
        TidedGround g = new TidedGround();
        feed(g, text);
        return g;
    }

    static void feed(TidedGround g, String text) {
        for (int i = 0; i < text.length(); i++) {
            g.feed(text.charAt(i));
        }
    }

    /** A new object whose ground is that of the text; the text must have no fault. */
    static TidedGround of(String text) {
        TidedGround g = fed(text);
        int cells = g.ground();
        if (cells < 0) {
            due("ground() of " + text, cells, 0);
        }
        return g;
    }

    static void end() {
        System.out.println(calls + " answers looked at, " + wrong + " not as due");
        if (wrong != 0) {
            System.exit(1);
        }
    }
}
