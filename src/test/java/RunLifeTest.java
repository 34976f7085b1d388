/** Long runs over all that an object keeps: images gone back to, grounds one behind another, texts with a fault between. */
public final class RunLifeTest {
    public static void main(String[] args) {
        images();
        grounds();
        refusals();
        wells();
        Check.end();
    }

    /**
     * MOON 0: 0 1; MOON 1: -1 0 1, a step later in the south. PULL in the north -1 1 1 0 0 2, in the south 0 2 -1 1 1 0.
     * By a SHIFT of 1 of MOON 1: 0 2 -1 1 1 0 and 1 0 0 2 -1 1.
     */
    private static void images() {
        Story.run("images", """
text g2 2 10 2;c1 0 20 3;m0 0 9,10;m0 1 8,9,10;h0 0 5;h1 1 9;d105 115;w0 0 5;w1 0 9;k0 0 0 30;
ground() -> 4; goBack(0) -> NOT; goBack(1) -> NOT; pass(3) -> 3; keep(0) -> 1; goBack(1) -> NOT
cell(0, 0, 5) -> 10; cell(1, 0, 5) -> 20; cell(1, 1, 5) -> 12; house(0, 3) -> 1; house(0, 4) -> 7; house(1, 4) -> 7
breaks(0, 1) -> 0; props(7) -> 2; stays(0) -> 13; crack(0, 1) -> 1; crack(0, 3) -> 0; soonest(0, 10, 0) -> 3 | 1, 2, 5
water(10, 0, 0) -> 21; water(10, 0, 1) -> 2; most(0, 0, 3, 0) -> 5; most(0, 1, 3, 0) -> 7 | FLOORS 3 and 8
# Another SHIFT, a load: 10 14 8 12 12 10, 20 24 18 22 22 20, and 12 10 10 14 8 12 in the south.
shift(1, 1) -> 0; load(1, 0, 10) -> 0; prop(0, 7) -> 0; steep(11) -> 20; seed(1) -> 0
cell(0, 0, 5) -> 12; cell(1, 0, 5) -> 22; cell(1, 1, 5) -> 14; house(0, 3) -> 0; house(0, 4) -> 5; house(1, 4) -> 5
breaks(0, 0) -> 1; breaks(0, 1) -> 1; props(7) -> 2; props(2) -> 6; most(0, 0, 3, 0) -> 7; stays(0) -> 13
roll(3) -> 0; told(10) -> 1; told(8) -> 4; keep(1) -> 1; roll(2) -> 0; roll(1) -> 8; told(10) -> 10; told(11) -> 8; told(8) -> 6
# What was kept first.
goBack(0) -> 1; told(8) -> 3; told(10) -> 0; told(11) -> 0; told(12) -> 20; moon(1, 3) -> 0; cell(1, 0, 2) -> 0; house(0, 2) -> 0
seed(4) -> 0; cell(1, 0, 5) -> 20; house(0, 3) -> 1; house(0, 4) -> 7; breaks(0, 1) -> 0; most(0, 0, 3, 0) -> 5
roll(2) -> 10; told(11) -> 10; told(10) -> 10; roll(3) -> 0; roll(4) -> 0; told(10) -> 1; told(8) -> 6; told(11) -> 10
# What was kept second; it is not touched by what was done behind it.
goBack(1) -> 1; told(8) -> 4; told(10) -> 1; told(11) -> 0; told(12) -> 11; moon(1, 3) -> 1; cell(1, 0, 2) -> 10; house(0, 2) -> 7
seed(3) -> 1; cell(0, 1, 5) -> 8; cell(0, 1, 6) -> 4; house(0, 3) -> 0; breaks(0, 0) -> 1; roll(2) -> 0; roll(1) -> 8
goBack(1) -> 1; seed(1) -> 1; told(10) -> 1; told(8) -> 4; keep(0) -> 1; prop(1, 9) -> 0; breaks(0, 0) -> NONE; keep(1) -> 1
goBack(0) -> 1; house(1, 2) -> 0; breaks(0, 1) -> 1; goBack(1) -> 1; house(1, 2) -> 9; breaks(0, 1) -> NONE
# THE SEED of 1: south, south, north over no crack, staying, east: from 0 1 at 4.
drift(1) -> 1; drift(1) -> 1; drift(1) -> 0; drift(1) -> 0; told(8) -> 8; told(11) -> 4; goBack(0) -> 1; told(11) -> 0
drift(3) -> 0; told(8) -> 7; told(11) -> 4; house(1, 2) -> 0; keep(2) -> UNKNOWN; goBack(-1) -> UNKNOWN; told(8) -> 7
# A text with a fault leaves the images, a new ground takes them.
text g2 2 10 2;h2
ground() -> -12; fault() -> 11; goBack(1) -> 1; house(1, 2) -> 9; told(8) -> 4; told(10) -> 1; cell(1, 0, 2) -> 10
text g2 2 10 2;
ground() -> 4; goBack(0) -> NOT; goBack(1) -> NOT; seed(8) -> 1; told(10) -> 0; told(12) -> 20; keep(1) -> 1; pass(5) -> 5
goBack(0) -> NOT; goBack(1) -> 1; told(8) -> 0; seed(0) -> 8
""");
    }

    private static void grounds() {
        Story.run("grounds one behind another", """
told(0) -> 0; keep(0) -> 1; pass(4) -> 4; seed(6) -> 0; steep(7) -> 20; write(1) -> 1; goBack(0) -> 1; told(8) -> 0; seed(6) -> 0
text g6 4 50 9;c5 3 1 1;m1 2 18,0;m3 4 0,9,18;m8 8 9,10,11,12;h5 3 0;h0 0 0;k0 0 0 0;k0 0 1 60;w5 3 9;w0 0 0;d0 300;d100 100;
told(7) -> 120; ground() -> 24; fault() -> NONE; told(7) -> 0; told(0) -> 6; told(1) -> 4; told(2) -> 3; told(3) -> 2; told(4) -> 2
told(5) -> 2; told(6) -> 2; told(9) -> 12; told(12) -> 20; told(14) -> 0; cell(0, 0, 4) -> 0; cell(0, 0, 5) -> 50
cell(5, 3, 4) -> -18; cell(5, 3, 5) -> -17; cell(5, 3, 0) -> 1; cell(5, 3, 1) -> 1 | 11 by 2: -9, 27 by 3: -9, 64 by 4: 0
crack(0, 0) -> 1; crack(1, 0) -> 0; house(0, 0) -> 53; house(1, 0) -> 0; moon(2, 0) -> 4; whose(1, 0) -> 0; stays(1) -> 0
load(5, 3, 90) -> 0; prop(0, 5) -> 0; shift(2, 3) -> 0; see(5, 3, 0, 1) -> 1; write(2) -> 1; keep(0) -> 1; pass(2) -> 2
# A fault: all is as it was.
text g1 1 1 1;h0 0 100;
ground() -> -12; fault() -> 14; told(0) -> 6; told(3) -> 2; told(8) -> 2; told(13) -> 1; told(14) -> 1; cell(5, 3, 2) -> 90
moon(2, 3) -> 3; house(0, 2) -> 5; goBack(0) -> 1; told(8) -> 0; fault() -> 14; seed(6) -> 6
# A small ground with nothing on it: nothing of the great one is left.
text g2 1 3 9;
ground() -> 2; fault() -> NONE; told(0) -> 2; told(1) -> 1; told(2) -> 0; told(3) -> 0; told(4) -> 0; told(5) -> 0; told(6) -> 0
told(9) -> 1; told(13) -> 0; told(14) -> 0; cell(0, 0, 5) -> 3; cell(1, 0, 2) -> 0; cell(5, 3, 2) -> UNKNOWN; moon(0, 0) -> UNKNOWN
house(0, 0) -> UNKNOWN; crack(0, 0) -> UNKNOWN; whose(0, 0) -> UNKNOWN; water(1, 0, 0) -> NOT; fits(NONE, 0) -> 1; look(0) -> NONE
aslant(0) -> NONE; level(3, 0, 5) -> 0; turn(0, 0, 1) -> NONE; most(1, 0, 7, 0) -> 7; most(1, 0, 7, 1) -> 0; breaks(0, 0) -> NONE
props(1) -> 0; bell(0, 0, 0, 0, 0) -> NONE; soonest(0, 10, 0) -> 1; least(0, 10, 0, 1, 0) -> 2; roll(2) -> 0; told(10) -> 10
see(0, 0, 1, 4) -> 1; fits(NONE, 0) -> 0; tear() -> 1; load(1, 0, 90) -> 0; cell(1, 0, 3) -> 0; cell(1, 0, 5) -> 3
# The same words with a MOON, and a house where a house was.
text g2 1 3 9;m1 0 9,10;h1 0 2;
told(7) -> 26; ground() -> 2; told(10) -> 0; cell(1, 0, 2) -> 0; cell(1, 0, 5) -> 12; cell(0, 0, 5) -> 3; house(0, 2) -> 0
house(0, 3) -> 1; house(0, 4) -> 7; breaks(5, 0) -> 5; moon(0, 3) -> 0; fits(NONE, 0) -> 2; odds(0, 50, 0, 0, 8, 0) -> 500000000
# No text at all: no ground; THE SEED alone is left.
ground() -> 0; told(0) -> 0; told(2) -> 0; told(9) -> 1; told(10) -> 0; roll(0) -> NOT; aslant(0) -> NOT; drift(1) -> NOT; seed(0) -> 6
""");
    }

    /** Calls that are refused in the middle of a run, each followed by what it would have changed. */
    private static void refusals() {
        Story.run("refusals between", """
text g2 2 10 2;c1 0 20 3;m0 0 9,10;m0 1 8,9,10;h0 0 5;h1 1 9;d105 115;w0 0 5;w1 0 9;k0 0 0 30;
feed(-1) -> OUTSIDE; feed(256) -> OUTSIDE; told(7) -> 89; ground() -> 4; told(15) -> OUTSIDE; told(-1) -> OUTSIDE
pass(0) -> OUTSIDE; pass(10000) -> OUTSIDE; told(8) -> 0; pass(9999) -> 9999; pass(1) -> 10000; told(8) -> 10000
# 10000 leaves 4 by 6: PULL 0 in the north, 1 in the south.
cell(0, 0, 5) -> 10; cell(1, 0, 5) -> 20; cell(0, 1, 5) -> 12; roll(4) -> NOT; roll(1) -> NOT; told(8) -> 10000
roll(2) -> NOT; told(10) -> 0; roll(-1) -> OUTSIDE; roll(3) -> 0; told(10) -> 1; told(8) -> 10001 | open at 10001: PULL 2
steep(100) -> OUTSIDE; steep(-1) -> OUTSIDE; told(12) -> 20; load(2, 0, 5) -> UNKNOWN; load(0, 2, 91) -> UNKNOWN
load(1, 0, 91) -> OUTSIDE; load(1, 0, -1) -> OUTSIDE; cell(1, 0, 2) -> 0; load(1, 0, 90) -> 0; load(1, 0, 91) -> OUTSIDE
cell(1, 0, 2) -> 90; cell(1, 0, 3) -> 0; prop(2, 1) -> UNKNOWN; prop(1, -1) -> OUTSIDE; house(1, 2) -> 0; shift(2, 1) -> UNKNOWN
shift(1, 1000) -> OUTSIDE; moon(1, 3) -> 0; shift(1, 5) -> 0; shift(1, -1) -> OUTSIDE; moon(1, 3) -> 2
drift(0) -> OUTSIDE; drift(100) -> OUTSIDE; told(8) -> 10001; seed(-1) -> OUTSIDE; seed(12) -> 0; seed(-5) -> OUTSIDE; seed(12) -> 12
level(16, 0, 0) -> UNKNOWN; level(0, 0, 0) -> OUTSIDE; level(1, 100, 0) -> OUTSIDE; level(16, 100, -1) -> UNKNOWN
see(0, 0, 5, 1000) -> OUTSIDE; see(0, 2, 1000, 0) -> UNKNOWN; told(13) -> 0; write(5) -> OUTSIDE; write(-1) -> OUTSIDE
told(14) -> 0; keep(2) -> UNKNOWN; keep(-1) -> UNKNOWN; goBack(0) -> NOT; goBack(2) -> UNKNOWN; told(8) -> 10001
soonest(2, 0, 0) -> UNKNOWN; soonest(0, 20, -1) -> UNKNOWN; soonest(0, 10, 900001) -> OUTSIDE; least(0, 10, 0, 0, NONE) -> OUTSIDE
least(0, 10, 0, 41, NONE) -> OUTSIDE; least(-1, 10, 0, 41, NONE) -> UNKNOWN; water(10000, 0, 0) -> OUTSIDE; water(1, 0, 3) -> OUTSIDE
whose(1, 0) -> UNKNOWN; whose(0, -1) -> OUTSIDE; stays(1) -> UNKNOWN; fits(0, 2) -> UNKNOWN; look(3) -> OUTSIDE; judge(2) -> OUTSIDE
# By SHIFTS 0 and 2 and with the load: PULL in the north 1 0 0 2 -1 1, in the south -1 1 1 0 0 2; 1 0 stands at 20.
cell(0, 0, 5) -> 12; cell(0, 1, 5) -> 14; cell(1, 1, 6) -> 6; house(1, 3) -> 0; told(11) -> 0; roll(2) -> 0; told(11) -> 0
roll(1) -> 8; told(11) -> 8; told(8) -> 10003; told(10) -> 10 | 10002 leaves 0 by 6 and 10003 1: 20 less 12
""");
    }

    /** Wells under a ground that moves: FLOORS by height, height by loads, shifts and steps. */
    private static void wells() {
        Story.run("wells", """
text g4 1 20 2;m1 0 9,11,7;w0 0 10;w1 0 10;w3 0 4;
ground() -> 4; height(0, 0, 0) -> 20; height(1, 0, 0) -> 24; height(3, 0, 0) -> 20 | PULL 0 2 -2 in turn, a step later each
# FLOORS 10 14 16.
water(0, 0, 0) -> 10; water(0, 0, 1) -> 1; water(0, 0, 2) -> 0; water(1, 0, 0) -> 11; water(1, 0, 2) -> 1; water(4, 0, 0) -> 14
water(4, 0, 2) -> 1; water(5, 0, 0) -> 29; water(5, 0, 1) -> 2; water(5, 0, 2) -> 3; water(8, 0, 0) -> 16; water(8, 0, 2) -> 3
water(9, 0, 0) -> 49; water(9, 0, 1) -> 3; water(9, 0, 2) -> 7; water(11, 0, 0) -> 17; water(11, 0, 1) -> 1; water(9999, 0, 0) -> 10039
# At 1: 24 16 24: FLOORS 14 6 20. At 2: 16 20 16: FLOORS 6 10 12.
water(8, 1, 0) -> 14; water(8, 1, 2) -> 2; water(9, 1, 0) -> 29; water(9, 1, 1) -> 2; water(9, 1, 2) -> 3; water(4, 2, 2) -> 1
water(4, 2, 0) -> 10; water(5, 2, 0) -> 21; water(5, 2, 1) -> 2; water(5, 5, 0) -> 21; water(5, 899999, 0) -> 21 | 899999 leaves 2 by 3
# Stiff under the first: 20 for ever: FLOORS 10 14 16, 10 6 20, 10 10 12.
load(0, 0, 20) -> 0; water(4, 1, 0) -> 10; water(4, 1, 2) -> 2; water(5, 1, 0) -> 21; water(5, 1, 2) -> 3; water(2, 2, 0) -> 11
water(2, 2, 2) -> 3; water(0, 2, 0) -> 10; water(0, 2, 2) -> 0; water(5, 2, 0) -> 37; water(5, 2, 1) -> 3; water(5, 2, 2) -> 7
shift(0, 2) -> 0; water(2, 0, 0) -> 11; water(2, 0, 2) -> 3; water(4, 2, 0) -> 10; water(4, 2, 2) -> 2 | as at 2, as at 1
keep(0) -> 1; load(3, 0, 10) -> 0; water(5, 0, 0) -> 25; water(5, 0, 1) -> 2; goBack(0) -> 1; water(5, 0, 0) -> 37 | FLOORS 10 10 14
pass(50) -> 50; water(5, 0, 0) -> 37; water(10000, 0, 0) -> OUTSIDE; water(-1, 0, 0) -> OUTSIDE; water(5, 900001, 0) -> OUTSIDE
# Below nothing: FLOORS that are less than 0, and a LEVEL of 0 or less.
text g2 1 0 3;m0 0 8,10;w0 0 5;w1 0 9;
ground() -> 2; water(0, 0, 0) -> -12; water(0, 0, 1) -> 1; water(5, 0, 0) -> -15; water(5, 0, 1) -> 2; water(5, 0, 2) -> 3
water(4, 0, 0) -> -8; water(4, 0, 2) -> 2; water(20, 0, 0) -> 0; water(20, 0, 1) -> 1; water(20, 0, 2) -> 3; water(8, 1, 0) -> 0
load(1, 0, 30) -> 0; water(1, 0, 0) -> -8; water(1, 0, 2) -> 2; water(2, 0, 0) -> -15; water(2, 0, 1) -> 2 | FLOORS -8 and -9
text g2 1 0 3;m0 0 8,10;
ground() -> 2; water(5, 0, 0) -> NOT; water(-1, 0, 0) -> OUTSIDE
""");
    }
}
