/** Promises 34 to 39: write, tear, judge, seed, keep, goBack. */
public final class BookTest {
    public static void main(String[] args) {
        write();
        tear();
        judge();
        seed();
        images();
        imagesRefused();
        Check.end();
    }

    private static void write() {
        TidedGround g = Check.of(Check.SMALL);
        Check.due("write(-1)", g.write(-1), Check.OUTSIDE);
        Check.due("write(5)", g.write(5), Check.OUTSIDE);
        for (int i = 1; i <= 30; i++) {
            Check.due("write", g.write(i % 5), i);
        }
        Check.due("write a 31st", g.write(0), Check.FULL);
        Check.due("write(5) as a 31st", g.write(5), Check.OUTSIDE);
        Check.due("told(14)", g.told(14), 30);
    }

    private static void tear() {
        TidedGround g = Check.of(Check.SMALL);
        Check.due("tear nothing", g.tear(), 0);
        g.write(1);
        g.write(1);
        g.see(0, 0, 0, 12);
        Check.due("tear three", g.tear(), 3);
        Check.due("no book", g.told(14), 0);
        Check.due("nothing seen", g.told(13), 0);
        Check.due("all fit again", g.fits(-1, 0), 6);
        Check.due("nothing wrong in it", g.judge(0), Check.NONE);
        Check.due("write behind it", g.write(2), 1);
        Check.due("see behind it", g.see(0, 0, 0, 12), 1);
    }

    private static void judge() {
        // Heights of 1 0: 7 at even steps, 3 at odd ones; all else is 0.
        TidedGround g = Check.of("g2 2 0 0;c1 0 5 2;m0 0 10,8;");
        Check.due("no book: nothing wrong", g.judge(0), Check.NONE);
        Check.due("no book: nothing pushed", g.judge(1), 0);
        g.write(2);
        Check.due("east at 1", g.judge(1), 3);
        g.write(3);
        g.write(1);
        Check.due("and north at 3", g.judge(1), 6);
        Check.due("all may be", g.judge(0), Check.NONE);
        g.write(2);
        Check.due("east of the last column", g.judge(0), 3);
        Check.due("pushed up to there", g.judge(1), 6);
        g.write(0);
        g.write(4);
        Check.due("the first that is wrong", g.judge(0), 3);
        g.steep(2);
        Check.due("too steep", g.judge(0), 0);
        Check.due("too steep: nothing pushed", g.judge(1), 0);
        g.steep(20);
        g.pass(1);
        Check.due("from THE STEP on", g.judge(1), 14);
        g.roll(3);
        Check.due("from where the cart is", g.judge(0), 1);
        Check.due("nothing was moved", g.told(8) * 100 + g.told(10), 201);
        Check.due("told(11)", g.told(11), 0);
        Check.due("judge(-1)", g.judge(-1), Check.OUTSIDE);
        Check.due("judge(2)", g.judge(2), Check.OUTSIDE);
        Check.due("judge without cells", new TidedGround().judge(1), Check.NOT);
        Check.due("judge(2) without cells", new TidedGround().judge(2), Check.OUTSIDE);
        // Open at odd steps.
        TidedGround crack = Check.of("g2 1 0 0;m0 0 9,10;k0 0 0 30;");
        crack.write(0);
        crack.write(2);
        crack.write(4);
        Check.due("over a crack and not back", crack.judge(0), 2);
        // Thirty steps from the last step that can be.
        TidedGround late = Check.of("g2 1 0 0;c1 0 1 0;");
        for (int i = 0; i < 90; i++) {
            late.pass(9999);
        }
        late.pass(90);
        for (int i = 0; i < 30; i++) {
            late.write(i % 2 == 0 ? 2 : 4);
        }
        Check.due("at 900000", late.told(8), 900000);
        Check.due("a book from 900000 on", late.judge(0), Check.NONE);
        Check.due("pushed from 900000 on", late.judge(1), 15);
    }

    private static void seed() {
        TidedGround g = new TidedGround();
        Check.due("seed(2147483647)", g.seed(2147483647), 0);
        Check.due("seed(-1)", g.seed(-1), Check.OUTSIDE);
        Check.due("seed(least)", g.seed(Integer.MIN_VALUE), Check.OUTSIDE);
        Check.due("seed(0)", g.seed(0), 2147483647);
        Check.due("seed(7)", g.seed(7), 0);
        TidedGround one = Check.of("g1 1 0 0;");
        one.seed(2147483647);
        one.drift(1);
        long first = (2147483647L * 1103515245L + 12345L) % 2147483648L;
        Check.due("drawn from the greatest", one.seed(0), (first * 1103515245L + 12345L) % 2147483648L);
    }

    private static void images() {
        TidedGround g = Check.of("g2 2 0 0;c1 0 5 2;m0 0 10,8;m0 0 9,9,9;h0 0 1;h1 0 2;");
        g.pass(4);
        g.shift(1, 2);
        g.load(1, 1, 33);
        g.prop(1, 44);
        g.steep(55);
        g.seed(66);
        g.roll(2);
        g.see(0, 0, 0, 0);
        g.write(3);
        Check.due("keep(0)", g.keep(0), 1);
        g.roll(3);
        g.pass(9);
        g.shift(1, 1);
        g.shift(0, 1);
        g.load(1, 1, 34);
        g.load(0, 0, 3);
        g.prop(1, 45);
        g.prop(0, 1);
        g.steep(56);
        g.seed(67);
        g.roll(1);
        Check.due("keep(1)", g.keep(1), 1);
        Check.due("goBack(0)", g.goBack(0), 1);
        asKept(g);
        Check.due("what is seen is no part of it", g.see(0, 0, 0, 0), 2);
        Check.due("the book is no part of it", g.write(1), 2);
        g.pass(1);
        g.load(1, 1, 1);
        g.shift(1, 0);
        g.prop(1, 2);
        Check.due("goBack(0) again", g.goBack(0), 1);
        asKept(g);
        Check.due("seen and written stay", g.told(13) * 10 + g.told(14), 22);
        Check.due("goBack(1)", g.goBack(1), 1);
        Check.due("step of 1", g.told(8), 16);
        Check.due("shifts of 1", g.moon(0, 3) * 10 + g.moon(1, 3), 11);
        Check.due("loads of 1", g.cell(1, 1, 2) * 100 + g.cell(0, 0, 2), 3403);
        Check.due("props of 1", g.house(0, 2) * 100 + g.house(1, 2), 145);
        Check.due("seed of 1", g.seed(1), 67);
        Check.due("pushed of 1", g.told(11), 6);
        g.roll(4);
        Check.due("the cart has gone", g.told(10), 0);
        g.goBack(1);
        Check.due("the cart of 1", g.told(10), 10);
        g.seed(1);
        Check.due("keep(0) over it", g.keep(0), 1);
        g.seed(2);
        g.goBack(0);
        Check.due("the seed kept last", g.seed(3), 1);
    }

    private static void asKept(TidedGround g) {
        Check.due("the step", g.told(8), 5);
        Check.due("the cart", g.told(10), 10);
        Check.due("pushed", g.told(11), 3);
        Check.due("steep", g.told(12), 55);
        Check.due("shift 0", g.moon(0, 3), 0);
        Check.due("shift 1", g.moon(1, 3), 2);
        Check.due("load of 1 1", g.cell(1, 1, 2), 33);
        Check.due("load of 0 0", g.cell(0, 0, 2), 0);
        Check.due("prop 0", g.house(0, 2), 0);
        Check.due("prop 1", g.house(1, 2), 44);
        Check.due("seed", g.seed(66), 66);
    }

    private static void imagesRefused() {
        TidedGround g = Check.of(Check.SMALL);
        Check.due("keep(-1)", g.keep(-1), Check.UNKNOWN);
        Check.due("keep(2)", g.keep(2), Check.UNKNOWN);
        Check.due("goBack(-1)", g.goBack(-1), Check.UNKNOWN);
        Check.due("goBack(2)", g.goBack(2), Check.UNKNOWN);
        Check.due("goBack(0)", g.goBack(0), Check.NOT);
        g.keep(1);
        Check.due("goBack(0), 1 alone kept", g.goBack(0), Check.NOT);
        Check.due("goBack(1)", g.goBack(1), 1);
        TidedGround none = new TidedGround();
        none.pass(3);
        Check.due("keep without cells", none.keep(0), 1);
        none.pass(3);
        Check.due("goBack without cells", none.goBack(0), 1);
        Check.due("its step", none.told(8), 3);
        none.ground();
        Check.due("an empty ground takes the images too", none.goBack(0), Check.NOT);
    }
}
