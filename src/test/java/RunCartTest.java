/** Long runs of the cart: tried, rolled, written down and judged, by draws; what loads, shifts and STEEP change in them. */
public final class RunCartTest {
    /**
     * PULL is 1, -1, 0 in turn. 1 0 stands at 9 and PULL, 1 1 at 4, 2 1 at 30, all else at 0. Between 0 0 and 0 1 is a
     * crack that is open at steps 0, 3, 6 and on.
     */
    private static final String HILLS = "text g3 2 0 0;c1 0 9 1;c1 1 4 0;c2 1 30 0;m0 0 10,8,9;k0 0 1 30;\n";

    /** All stands at 12 at even steps, at 8 at odd ones. Between 0 0 and 0 1 is a crack that is open at even steps. */
    private static final String SQUARE = "text g2 2 10 2;m0 0 10,8;h1 0 1;d109 111;w1 0 5;k0 0 1 30;\n";

    public static void main(String[] args) {
        cart();
        book();
        fullBook();
        drifts();
        driftsOtherwise();
        Check.end();
    }

    private static void cart() {
        Story.run("the cart", HILLS + """
ground() -> 6; soonest(0, 20, 0) -> 2; least(0, 20, 0, 2, NONE) -> 8; least(0, 20, 1, 2, NONE) -> 9; least(0, 20, 2, 2, NONE) -> 10
least(0, 20, 0, 4, NONE) -> 8; least(0, 20, 0, 4, 0) -> 2; least(0, 20, 0, 4, 1) -> 0; least(0, 20, 0, 4, 2) -> 0
least(0, 20, 0, 4, 3) -> 2; least(0, 20, 0, 4, 4) -> NONE | of like ones that which waits on the hill
least(0, 20, 0, 5, NONE) -> 8; least(0, 20, 0, 5, 0) -> 0; least(0, 20, 0, 5, 1) -> 0; least(0, 20, 0, 5, 2) -> 0
least(0, 20, 0, 5, 3) -> 2; least(0, 20, 0, 5, 4) -> 2; least(0, 20, 0, 5, 5) -> NONE | 8 again at step 4: it waits for that
steep(7) -> 20; soonest(0, 20, 0) -> 4; least(0, 20, 0, 4, NONE) -> 10; least(0, 20, 0, 3, NONE) -> NONE | 4 and 6, by 1 1
least(0, 20, 0, 4, 0) -> 3; least(0, 20, 0, 4, 1) -> 2; least(0, 20, 0, 4, 2) -> 1; least(0, 20, 0, 4, 3) -> 2
steep(5) -> 7; soonest(0, 20, 0) -> 5; least(0, 20, 0, 4, NONE) -> NONE; least(0, 20, 0, 5, NONE) -> 8 | 4, and 4 at step 4
least(0, 20, 0, 5, 0) -> 0; least(0, 20, 0, 5, 1) -> 3; least(0, 20, 0, 5, 2) -> 2; least(0, 20, 0, 5, 3) -> 1
steep(3) -> 5; soonest(0, 20, 0) -> NONE; soonest(0, 1, 2) -> 2; soonest(1, 0, 2) -> 2; soonest(0, 1, 0) -> 1; steep(5) -> 3
# As least told it.
roll(0) -> 0; roll(3) -> 0; told(10) -> 1; roll(1) -> NOT; told(8) -> 2; roll(2) -> 4; roll(1) -> 4; roll(2) -> 0 | open at 3
told(8) -> 5; told(10) -> 20; told(11) -> 8; roll(3) -> NOT; steep(29) -> 5; roll(3) -> NOT; steep(30) -> 29; roll(3) -> 30
told(11) -> 38; told(10) -> 21; told(8) -> 6; roll(2) -> NOT; roll(3) -> NOT; roll(5) -> OUTSIDE; told(8) -> 6
# Back from 2 1: over the hill in three steps, or down by 0 1, but the crack is open at 9.
soonest(21, 0, 6) -> 3; least(21, 0, 6, 3, NONE) -> 5; least(21, 0, 6, 3, 0) -> 4; least(21, 0, 6, 3, 1) -> 1
least(21, 0, 6, 4, NONE) -> 0; least(21, 0, 6, 4, 0) -> 0; least(21, 0, 6, 4, 1) -> 4; least(21, 0, 6, 4, 2) -> 4
least(21, 0, 6, 4, 3) -> 1; steep(4) -> 30; soonest(21, 0, 6) -> 4; steep(30) -> 4 | 9 less 4 is too steep then
# By a SHIFT of 1 the crack is open at 8 and 11, and shut at 9; the hill is 8 at 6 and 9, 9 at 7, 10 at 8.
keep(0) -> 1; shift(0, 1) -> 0; least(21, 0, 6, 3, NONE) -> 0; least(21, 0, 6, 3, 0) -> 4; least(21, 0, 6, 3, 1) -> 4
least(21, 0, 6, 3, 2) -> 1; roll(4) -> 0; roll(4) -> 0; roll(1) -> 0; told(10) -> 0; told(8) -> 9; told(11) -> 38
roll(3) -> 0; roll(1) -> NOT; pass(1) -> 11; roll(1) -> 0; roll(2) -> 9; told(11) -> 47 | at 11 it is open; the hill at 13
goBack(0) -> 1; told(8) -> 6; told(10) -> 21; told(11) -> 38; told(12) -> 30; moon(0, 3) -> 0; roll(4) -> 0; roll(4) -> 0
roll(1) -> NOT; roll(0) -> 0; roll(1) -> 0; told(8) -> 10; told(11) -> 38 | open at 9 again
# A load makes the hill 9 for ever, and pulls, and so the crack, are as they were.
load(1, 0, 10) -> 0; least(0, 20, 10, 2, NONE) -> 9; least(0, 20, 10, 9, NONE) -> 9; least(0, 20, 10, 9, 0) -> 0
steep(8) -> 30; soonest(0, 20, 10) -> 4; soonest(0, 20, 11) -> 5; load(1, 0, 0) -> 10; soonest(0, 20, 11) -> 3 | 8 at 13
roll(2) -> NOT; pass(2) -> 12; roll(2) -> 8; roll(2) -> 0; told(10) -> 20; told(11) -> 46; told(8) -> 14
""");
    }

    private static void book() {
        Story.run("the book", HILLS + """
ground() -> 6; write(2) -> 1; write(2) -> 2; judge(0) -> NONE; judge(1) -> 8; told(8) -> 0; told(11) -> 0; told(14) -> 2
steep(7) -> 20; judge(0) -> 0; judge(1) -> 0; steep(8) -> 7; judge(0) -> NONE; pass(1) -> 1; judge(0) -> 0 | 9 at step 2
steep(20) -> 8; judge(1) -> 9; pass(1) -> 2; judge(1) -> 10; load(1, 0, 10) -> 0; judge(1) -> 9; load(1, 0, 0) -> 10
shift(0, 1) -> 0; judge(1) -> 8; shift(0, 0) -> 1; judge(1) -> 10 | 8 at step 3 by a SHIFT of 1
write(3) -> 3; judge(0) -> 2; judge(1) -> 10; steep(99) -> 20; judge(0) -> NONE; judge(1) -> 40 | and 30 to 2 1
write(4) -> 4; write(4) -> 5; write(1) -> 6; judge(0) -> NONE; judge(1) -> 40 | north over the crack at 8: shut
pass(1) -> 3; judge(0) -> 5; judge(1) -> 38; shift(0, 1) -> 0; judge(0) -> NONE; judge(1) -> 39 | at 9: open, by 1 shut; 9 at 4
shift(0, 3) -> 1; moon(0, 3) -> 0; judge(0) -> 5; keep(0) -> 1; roll(2) -> 8; told(10) -> 10; judge(0) -> 1; judge(1) -> 0
see(1, 0, 0, 10) -> 1; tear() -> 7; told(13) -> 0; told(14) -> 0; judge(0) -> NONE; judge(1) -> 0; write(2) -> 1; judge(1) -> 0
roll(2) -> 0; told(11) -> 8; judge(0) -> 0; goBack(0) -> 1; told(14) -> 1; judge(0) -> NONE; judge(1) -> 8 | no part of an image
write(0) -> 2; write(4) -> 3; write(3) -> 4; judge(0) -> NONE; judge(1) -> 8 | south at 7: shut
roll(2) -> 8; roll(0) -> 0; roll(4) -> 0; roll(3) -> 0; told(11) -> 8; told(10) -> 1; told(8) -> 7 | as it was judged
judge(0) -> 3; judge(1) -> 4; roll(2) -> 4; judge(0) -> 3; judge(1) -> 26 | from 0 1 and from 1 1 on: no CELL in the south
roll(1) -> 6; judge(0) -> NONE; judge(1) -> 10 | from 1 0 on: down, 10 up at 12, down
write(5) -> OUTSIDE; told(14) -> 4; judge(2) -> OUTSIDE; told(11) -> 18; told(8) -> 9
text g2 1 0 0;
judge(0) -> NONE; ground() -> 2; told(14) -> 0; judge(1) -> 0; write(2) -> 1; write(2) -> 2; judge(0) -> 1; judge(1) -> 0
text g2 1 0 0
ground() -> -11; told(14) -> 2; judge(0) -> 1; ground() -> 0; told(14) -> 0; judge(0) -> NOT; write(4) -> 1; judge(1) -> NOT
""");
    }

    /** To the hill and back, from step 3 on: 8, 10, 9 in turn, fifteen times. */
    private static void fullBook() {
        StringBuilder rows = new StringBuilder(HILLS + "ground() -> 6; pass(3) -> 3\n");
        for (int i = 0; i < 30; i++) {
            rows.append("write(").append(i % 2 == 0 ? 2 : 4).append(") -> ").append(i + 1).append("; ");
        }
        rows.append("""
judge(0) -> NONE; judge(1) -> 135; write(0) -> FULL; write(5) -> OUTSIDE; told(14) -> 30; judge(1) -> 135
steep(9) -> 20; judge(0) -> 2; judge(1) -> 8; steep(10) -> 9; judge(0) -> NONE; pass(1) -> 4; judge(1) -> 135
steep(9) -> 10; judge(0) -> 4; judge(1) -> 17; load(1, 0, 10) -> 0; judge(0) -> NONE; judge(1) -> 135 | 9 at 5, 8 at 7, 10 at 9
""");
        for (int i = 0; i < 30; i++) {
            rows.append("roll(").append(i % 2 == 0 ? 2 : 4).append(") -> ").append(i % 2 == 0 ? 9 : 0).append("; ");
        }
        Story.run("a full book", rows + """
told(11) -> 135; told(8) -> 34; told(10) -> 0; see(0, 0, 0, 0) -> 1; tear() -> 31; write(1) -> 1; judge(0) -> 0
""");
    }

    /**
     * THE SEED of 1 draws 16838 5758, 10113 17515, 31051 5627, 23010 7419, 16212 4086, 2749 12767, 9084 12060 32225 17543
     * and on: south, south, north, staying, east, west, west and 23 more on CELL 1.
     */
    private static void drifts() {
        Story.run("drifts", SQUARE + """
ground() -> 4; seed(1) -> 0; see(1, 0, 0, 12) -> 1; fits(NONE, 0) -> 1; write(2) -> 1; write(3) -> 2; judge(1) -> 0
level(15, 0, 0) -> 0; stays(0) -> 0; water(3, 0, 0) -> 10; house(0, 4) -> 0; breaks(0, 0) -> NONE; bell(1, 0, 1, 0, 1) -> 0
drift(1) -> 1; drift(1) -> 1; drift(1) -> 0; drift(2) -> 10; drift(1) -> 0; told(8) -> 6; told(11) -> 0; keep(1) -> 1
drift(0) -> OUTSIDE; drift(100) -> OUTSIDE; cell(1, 0, 2) -> 0; drift(1) -> 0; cell(1, 0, 2) -> 23; cell(1, 0, 3) -> 0
# 1 0 is stiff now, at 10.
fits(NONE, 0) -> 0; judge(1) -> 0; level(15, 0, 0) -> NONE; level(15, 2, 0) -> 0; level(13, 0, 0) -> 0; stays(0) -> 2
water(3, 0, 0) -> 8; house(0, 4) -> 1; house(0, 3) -> 1; breaks(0, 0) -> 0; props(1) -> 1; bell(1, 0, 1, 0, 1) -> 2
drift(1) -> 0; keep(0) -> 1; told(8) -> 8; judge(1) -> 4 | west of 0 0; 10 less 8 at 9, 12 less 10 at 10
# Step 9 is drawn east, 10 to 14 lead off the ground or stay, 15 is west.
drift(1) -> 10; told(11) -> 2; drift(5) -> 10; told(8) -> 14; drift(1) -> 0; told(11) -> 2
# Up to 19 it is off the ground; CELL 0 has 8 more, which is too light to matter.
drift(4) -> 0; cell(0, 0, 2) -> 8; cell(0, 0, 3) -> 2; level(13, 0, 0) -> 0; told(8) -> 19
# East at 21, south at 24: up by 2 both times; west at 25, east at 26, west at 29.
drift(2) -> 10; told(11) -> 4; drift(3) -> 11; told(11) -> 6; drift(1) -> 1; drift(1) -> 11; drift(3) -> 1; told(8) -> 29
# North at 30 and 34: the crack is open. At 35 CELL 2 has 12 more: 11 and 9.
drift(5) -> 1; told(10) -> 1; cell(0, 1, 2) -> 0; drift(1) -> 1; cell(0, 1, 2) -> 12; cell(0, 1, 3) -> 1; cell(0, 1, 5) -> 9
height(0, 1, 36) -> 11; level(13, 0, 0) -> NONE; level(13, 1, 0) -> 0; stays(0) -> 6; whose(0, 35) -> 6 | 9 to 11
# North at 36: open; at 37: shut. South at 38: open; at 39: shut, and up by 1; then CELL 0 has 19 more.
drift(1) -> 1; drift(1) -> 0; drift(1) -> 0; told(11) -> 6; drift(1) -> 1; told(11) -> 7; cell(0, 0, 2) -> 27
cell(0, 0, 3) -> 0; stays(0) -> 7; told(8) -> 39; seed(5) -> 654007347; fits(NONE, 0) -> 0; told(13) -> 1; told(14) -> 2
goBack(0) -> 1; told(8) -> 8; told(10) -> 0; told(11) -> 0; cell(0, 0, 2) -> 0; cell(1, 0, 2) -> 23; judge(1) -> 4
seed(1388290519) -> 1388290519; drift(31) -> 1; told(8) -> 39; told(11) -> 7; cell(0, 0, 2) -> 27 | the same again
""");
    }

    /** The same draws with another STEEP, another SHIFT, and on another ground. */
    private static void driftsOtherwise() {
        Story.run("drifts otherwise", SQUARE + """
ground() -> 4; seed(1) -> 0; drift(8) -> 0; cell(1, 0, 2) -> 23; keep(0) -> 1; steep(1) -> 20
# 2 up is too steep: it stays at 9 and 21, goes down east at 26 and west at 29, south at 35.
drift(17) -> 0; told(11) -> 0; drift(1) -> 10; drift(2) -> 10; drift(1) -> 0; drift(5) -> 0; drift(1) -> 1; told(8) -> 35
told(11) -> 0; cell(0, 1, 2) -> 12; cell(0, 0, 2) -> 8; seed(0) -> 344858293; goBack(0) -> 1; told(12) -> 20
seed(9) -> 1388290519; told(8) -> 8; cell(0, 1, 2) -> 0; pass(1) -> 9; cell(1, 0, 6) -> 2
# By a SHIFT of 1 the crack is open at odd steps: south at 2, not at 1; north not at 3; east at 5, west at 6, east at 9; 10: up.
text g2 2 10 2;m0 0 10,8;h1 0 1;d109 111;w1 0 5;k0 0 1 30;
ground() -> 4; seed(1) -> 9; shift(0, 1) -> 0; drift(1) -> 0; drift(1) -> 1; drift(2) -> 1; drift(1) -> 11; drift(1) -> 1
drift(2) -> 1; cell(1, 0, 2) -> 23; drift(1) -> 11; told(11) -> 0; drift(1) -> 10; told(11) -> 2; told(8) -> 10
seed(7) -> 326272115; house(0, 3) -> 1; prop(0, 1) -> 0; house(0, 3) -> 0; breaks(0, 0) -> NONE
# One CELL alone: each way leads off it. 0 draws 0 0, then 9988 and 22117: 7 more.
text g1 1 5 1;m0 0 9,12;
ground() -> 1; seed(0) -> 7; drift(1) -> 0; cell(0, 0, 2) -> 7; cell(0, 0, 3) -> 1; cell(0, 0, 5) -> 8; told(11) -> 0
load(0, 0, 9) -> 7; drift(1) -> 0; seed(0) -> 1109335178; drift(1) -> 0; cell(0, 0, 2) -> 16; cell(0, 0, 5) -> 5 | 9 and 7
load(0, 0, 84) -> 16; seed(0) -> 1449466924; drift(1) -> 0; cell(0, 0, 2) -> 90; told(8) -> 4 | 91 would be too much
""");
    }
}
