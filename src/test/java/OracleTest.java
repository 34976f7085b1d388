import java.util.Random;

/**
 * Random calls, right and wrong ones, on random grounds, one behind another in the life of an object: every answer is held
 * against the plain rules of Oracle.
 */
public final class OracleTest {
    private static final int LIFE = 512;

    private final Random r;
    private final TidedGround g;
    private Oracle o;
    private int calls;

    private OracleTest(long seed) {
        r = new Random(seed);
        g = new TidedGround();
        o = new Oracle(r);
        newGround("run " + seed + ": ");
    }

    public static void main(String[] args) {
        int runs = args.length > 0 ? Integer.parseInt(args[0]) : 300;
        for (int seed = 0; seed < runs; seed++) {
            OracleTest test = new OracleTest(seed);
            // One call more than is counted can be made by a round.
            while (test.calls < LIFE - 1) {
                test.round("run " + seed + ", call " + test.calls + ", of " + test.o.text + ": ");
            }
        }
        Check.end();
    }

    private void due(String call, int got, int want) {
        calls++;
        Check.due(call, got, want);
    }

    private void round(String where) {
        int left = LIFE - calls;
        int kind = r.nextInt(80);
        if (kind == 0 && left > 260) {
            Oracle next = new Oracle(r);
            next.seed = o.seed;
            o = next;
            newGround(where);
        } else if (kind == 1 && left > 100) {
            faultyText(where);
        } else {
            call(where);
        }
    }

    private void newGround(String where) {
        feed(o.text);
        due(where + "ground() of " + o.text, g.ground(), o.w * o.h);
    }

    /** The beginning of a text that is right, with a letter behind it that can stand nowhere: all stays as it was. */
    private void faultyText(String where) {
        String text = new Oracle(r).text;
        int end = r.nextInt(Math.min(60, text.length()));
        // Half a number could be a fault of its own.
        while (end > 0 && Character.isDigit(text.charAt(end - 1))) {
            end--;
        }
        String cut = text.substring(0, end) + "?";
        feed(cut);
        due(where + "ground() of " + cut, g.ground(), -11);
        due(where + "fault() of " + cut, g.fault(), cut.length() - 1);
    }

    private void feed(String text) {
        for (int i = 0; i < text.length(); i++) {
            due("feed", g.feed(text.charAt(i)), i + 1);
        }
    }

    /** Mostly within bounds, now and then just outside or far out. */
    private int num(int low, int high) {
        switch (r.nextInt(60)) {
            case 0: return low - 1;
            case 1: return high + 1;
            case 2: return low;
            case 3: return high;
            case 4: return r.nextInt();
            default: return low + r.nextInt(high - low + 1);
        }
    }

    private int x() {
        return num(0, o.w - 1);
    }

    private int y() {
        return num(0, o.h - 1);
    }

    private int step() {
        return r.nextInt(3) == 0 ? num(0, 900000) : num(0, 40);
    }

    private int pair() {
        return r.nextInt(40) == 0 ? r.nextInt(80) - 5 : 10 * r.nextInt(o.w) + r.nextInt(o.h);
    }

    private int set() {
        int all = (1 << o.w * o.h) - 1;
        return r.nextInt(30) == 0 ? r.nextInt() : r.nextInt(4) == 0 ? all : r.nextInt() & r.nextInt() & r.nextInt() & all;
    }

    private int of(java.util.List<int[]> list) {
        return num(0, Math.max(0, list.size() - 1));
    }

    private void call(String where) {
        switch (r.nextInt(5)) {
            case 0 -> callGround(where);
            case 1 -> callDone(where);
            case 2 -> callWhen(where);
            case 3 -> callTried(where);
            default -> callSeen(where);
        }
    }

    private void callGround(String where) {
        int x = x(), y = y(), t = step(), what = num(0, 6);
        switch (r.nextInt(6)) {
            case 0 -> {
                what = num(0, 14);
                due(where + "told " + what, g.told(what), o.told(what));
            }
            case 1 -> due(where + "cell " + x + " " + y + " " + what, g.cell(x, y, what), o.cell(x, y, what));
            case 2 -> {
                t = r.nextInt(3) == 0 ? num(0, 999999) : t;
                due(where + "height " + x + " " + y + " " + t, g.height(x, y, t), o.height(x, y, t));
            }
            case 3 -> {
                int i = of(o.moons);
                what = num(0, 4);
                due(where + "moon " + i + " " + what, g.moon(i, what), o.moon(i, what));
            }
            case 4 -> {
                int h = of(o.houses);
                what = num(0, 4);
                due(where + "house " + h + " " + what, g.house(h, what), o.house(h, what));
            }
            default -> {
                int k = of(o.cracks);
                due(where + "crack " + k + " " + t, g.crack(k, t), o.crack(k, t));
            }
        }
    }

    private void callDone(String where) {
        int v = num(0, 99);
        switch (r.nextInt(9)) {
            case 0 -> {
                int n = r.nextInt(4) == 0 ? num(1, 9999) : num(1, 9);
                due(where + "pass " + n, g.pass(n), o.pass(n));
            }
            case 1, 2 -> {
                int way = num(0, 4);
                due(where + "roll " + way, g.roll(way), o.roll(way));
            }
            case 3 -> {
                v = r.nextInt(3) == 0 ? num(0, 5) : v;
                due(where + "steep " + v, g.steep(v), o.steep(v));
            }
            case 4 -> {
                int x = x(), y = y();
                v = num(0, 90);
                due(where + "load " + v, g.load(x, y, v), o.load(x, y, v));
            }
            case 5 -> {
                int h = of(o.houses);
                v = r.nextInt(3) == 0 ? num(0, 999) : num(0, 30);
                due(where + "prop " + h + " " + v, g.prop(h, v), o.prop(h, v));
            }
            case 6 -> {
                int i = of(o.moons);
                v = num(0, 999);
                due(where + "shift " + i + " " + v, g.shift(i, v), o.shift(i, v));
            }
            case 7 -> {
                int n = r.nextInt(3) == 0 ? num(1, 99) : num(1, 5);
                due(where + "drift " + n, g.drift(n), o.drift(n));
            }
            default -> {
                int i = num(0, 1);
                if (r.nextBoolean()) {
                    due(where + "keep " + i, g.keep(i), o.keep(i));
                } else {
                    due(where + "goBack " + i, g.goBack(i), o.goBack(i));
                }
            }
        }
    }

    private void callWhen(String where) {
        int x = x(), y = y(), t = step(), what = num(0, 1);
        switch (r.nextInt(7)) {
            case 0 -> {
                int set = set(), e = num(0, 99);
                due(where + "level " + set + " " + e + " " + t, g.level(set, e, t), o.level(set, e, t));
            }
            case 1 -> due(where + "aslant " + t, g.aslant(t), o.aslant(t));
            case 2 -> due(where + "turn " + x + " " + y + " " + t, g.turn(x, y, t), o.turn(x, y, t));
            case 3 -> due(where + "most " + x + " " + y + " " + t + " " + what, g.most(x, y, t, what), o.most(x, y, t, what));
            case 4 -> {
                int limit = r.nextInt(5) == 0 ? num(0, 999) : num(0, 99);
                due(where + "bell " + limit + " " + t, g.bell(x, y, limit, t, what), o.bell(x, y, limit, t, what));
            }
            case 5 -> due(where + "breaks " + t + " " + what, g.breaks(t, what), o.breaks(t, what));
            default -> {
                int size = num(1, 20);
                due(where + "props " + size, g.props(size), o.props(size));
            }
        }
    }

    private void callTried(String where) {
        int from = pair(), to = pair(), t = step(), v = r.nextBoolean() ? num(0, 9999) : num(0, 99);
        switch (r.nextInt(5)) {
            case 0 -> due(where + "soonest " + from + " " + to + " " + t, g.soonest(from, to, t), o.soonest(from, to, t));
            case 1 -> {
                int n = r.nextInt(3) == 0 ? num(1, 40) : num(1, 12);
                int i = r.nextInt(3) == 0 ? -1 : num(-3, 12);
                due(where + "least " + from + " " + to + " " + t + " " + n + " " + i, g.least(from, to, t, n, i), o.least(from, to, t, n, i));
            }
            case 2 -> {
                int what = num(0, 2);
                due(where + "water " + v + " " + t + " " + what, g.water(v, t, what), o.water(v, t, what));
            }
            case 3 -> {
                int d = of(o.deeds);
                due(where + "whose " + d + " " + t, g.whose(d, t), o.whose(d, t));
            }
            default -> {
                int d = of(o.deeds);
                due(where + "stays " + d, g.stays(d), o.stays(d));
            }
        }
    }

    private void callSeen(String where) {
        int x = x(), y = y(), what = num(0, 2);
        switch (r.nextInt(10)) {
            case 0, 1 -> {
                int t = r.nextInt(3) == 0 ? num(0, 999) : num(0, 20);
                boolean real = o.isCell(x, y) && t >= 0 && t < 999 && r.nextInt(8) > 0;
                int height = real ? o.high(x, y, t) : num(-999, 999);
                due(where + "see " + x + " " + y + " " + t + " " + height, g.see(x, y, t, height), o.see(x, y, t, height));
            }
            case 2, 3 -> {
                int i = r.nextBoolean() ? -1 : num(-2, 10), k = of(o.moons);
                due(where + "fits " + i + " " + k, g.fits(i, k), o.fits(i, k));
            }
            case 4 -> due(where + "look " + what, g.look(what), o.look(what));
            case 5 -> {
                int k = of(o.moons), q = num(0, 100), limit = num(0, 60), t = step();
                due(where + "odds " + k + " " + q + " " + limit + " " + t, g.odds(k, q, x, y, limit, t), o.odds(k, q, x, y, limit, t));
            }
            case 6, 7 -> {
                int way = num(0, 4);
                due(where + "write " + way, g.write(way), o.write(way));
            }
            case 8 -> {
                if (r.nextInt(8) == 0) {
                    due(where + "tear", g.tear(), o.tear());
                }
                what = num(0, 1);
                due(where + "judge " + what, g.judge(what), o.judge(what));
            }
            default -> {
                int v = r.nextInt();
                due(where + "seed " + v, g.seed(v), o.seed(v));
            }
        }
    }
}
