/** Long runs in which loads, props and shifts are changed, and all that asks for heights and pulls is asked behind it. */
public final class RunGroundTest {
    public static void main(String[] args) {
        loads();
        loadsUnderWay();
        props();
        shifts();
        shiftsApart();
        Check.end();
    }

    /** PULL is 1 at even steps and -1 at odd ones, everywhere: HEIGHTS 14 22 14 and 6 18 6 while nothing is loaded. */
    private static void loads() {
        Story.run("loads", """
text g3 1 10 4;c1 0 20 2;m0 0 10,8;h1 0 9;k1 0 0 30;w0 0 5;w1 0 10;d110 122;
ground() -> 3; told(9) -> 2 | one MOON of two
height(0, 0, 0) -> 14; height(1, 0, 0) -> 22; height(2, 0, 0) -> 14 | 10 and 4, 20 and 2
height(0, 0, 1) -> 6; height(1, 0, 1) -> 18; height(2, 0, 1) -> 6 | 10 less 4, 20 less 2
cell(1, 0, 6) -> 8; house(0, 3) -> 0; house(0, 4) -> 3 | 22 less 14; at odd steps 12, 3 above the hinge
breaks(0, 0) -> 1; breaks(0, 1) -> 0; props(2) -> 2; props(3) -> 1
bell(1, 0, 8, 0, 0) -> 1; bell(1, 0, 8, 0, 1) -> 1; bell(1, 0, 12, 0, 0) -> NONE; bell(0, 0, 7, 0, 1) -> 2
level(5, 0, 1) -> 0; level(7, 8, 1) -> 1; level(7, 7, 0) -> NONE | they differ by 8 and by 12
aslant(0) -> 0; turn(1, 0, 1) -> 0; turn(1, 0, 2) -> 0; most(1, 0, 1, 0) -> 2; most(1, 0, 1, 1) -> 1
whose(0, 0) -> 7; whose(0, 1) -> 2; stays(0) -> 2 | 10 to 22: all at even steps, 18 alone at odd ones
water(4, 0, 0) -> 25; water(4, 0, 1) -> 2; water(4, 0, 2) -> 3 | FLOORS 9 and 12
water(3, 0, 0) -> 12; water(3, 0, 1) -> 1; water(3, 0, 2) -> 1 | it comes up to the other FLOOR, not above it
crack(0, 0) -> 1; crack(0, 1) -> 0; soonest(0, 20, 0) -> 3 | the crack is open at even steps: east, wait, east
least(0, 20, 0, 3, NONE) -> 8; least(0, 20, 0, 3, 0) -> 0; least(0, 20, 0, 3, 1) -> 2; least(0, 20, 0, 3, 2) -> 2
odds(0, 30, 1, 0, 9, 1) -> 1000000000 | 12 with it, 10 without
odds(0, 30, 1, 0, 10, 1) -> 300000000; odds(0, 30, 1, 0, 9, 0) -> 700000000 | 8 with it at 0
see(1, 0, 0, 22) -> 1; see(1, 0, 3, 18) -> 2; fits(NONE, 0) -> 1; fits(0, 0) -> 0; look(0) -> NONE
write(2) -> 1; write(0) -> 2; write(2) -> 3; judge(0) -> NONE; judge(1) -> 12 | 18 less 6, then down
# The middle is stiffer: 21 and 19.
load(1, 0, 19) -> 0; cell(1, 0, 2) -> 19; cell(1, 0, 3) -> 1; cell(1, 0, 1) -> 2; cell(1, 0, 5) -> 21; cell(1, 0, 6) -> 7
house(0, 4) -> 4; props(2) -> 2; props(3) -> 2; breaks(0, 0) -> 1 | 19 less 6 is 13
bell(1, 0, 12, 0, 0) -> 1; bell(1, 0, 7, 0, 1) -> 1; bell(2, 0, 6, 0, 1) -> 2; level(7, 7, 0) -> 0
most(1, 0, 1, 1) -> 1; crack(0, 0) -> 1; told(9) -> 2 | PULL, and so a crack, does not ask for loads
water(4, 0, 0) -> 12; water(4, 0, 1) -> 1; water(4, 0, 2) -> 3 | FLOORS 9 and 11
water(3, 0, 0) -> 23; water(3, 0, 1) -> 2; water(3, 0, 2) -> 3
least(0, 20, 0, 3, NONE) -> 7; judge(1) -> 13 | 21 less 14 at step 2, 19 less 6 at step 1
fits(NONE, 0) -> 0; fits(0, 0) -> NONE; look(2) -> NONE; told(13) -> 2 | 20 and one PULL is never 22; it stays SEEN
odds(0, 30, 1, 0, 12, 1) -> 300000000; odds(0, 30, 1, 0, 9, 0) -> 700000000 | 13 with it at 1, 7 at 0, 10 without
# Both ends are stiff: 10 at each step.
load(0, 0, 40) -> 0; load(2, 0, 90) -> 0; cell(0, 0, 3) -> 0; cell(2, 0, 3) -> 0; height(0, 0, 0) -> 10; height(2, 0, 1) -> 10
cell(1, 0, 6) -> 11; house(0, 3) -> 1; house(0, 4) -> 2; breaks(0, 0) -> 0; breaks(1, 0) -> 2 | 11 and 9
turn(0, 0, 1) -> NONE; turn(1, 0, 1) -> 0; level(7, 10, 0) -> 1; level(7, 8, 0) -> NONE; level(7, 11, 0) -> 0
whose(0, 1) -> 7; stays(0) -> 7; water(4, 0, 0) -> 9; water(4, 0, 2) -> 1; water(4, 1, 0) -> 9; water(4, 1, 2) -> 1
judge(1) -> 9; soonest(0, 20, 0) -> 3; least(0, 20, 0, 3, NONE) -> 9 | 19 less 10 at step 1; the crack is as it was
least(0, 20, 0, 3, 0) -> 2; least(0, 20, 0, 3, 1) -> 0; least(0, 20, 0, 3, 2) -> 2; least(0, 20, 0, 3, 3) -> NONE
odds(0, 50, 1, 0, 10, 0) -> 500000000; odds(0, 50, 1, 0, 10, 1) -> 0 | 11 with it at 0, 9 at 1, 10 without
# All is stiff: 10 20 10.
load(1, 0, 20) -> 19; turn(1, 0, 1) -> NONE; bell(1, 0, 9, 0, 1) -> 2; bell(1, 0, 10, 0, 1) -> 0; house(0, 4) -> 1
level(7, 9, 0) -> NONE; level(7, 10, 1) -> 0; aslant(1) -> 0; most(1, 0, 1, 0) -> 2; cell(1, 0, 4) -> 1
tear() -> 5; see(1, 0, 5, 20) -> 1; fits(NONE, 0) -> 2; fits(1, 0) -> 1; look(0) -> NONE | it is 20 by any SHIFT
load(2, 0, 39) -> 90; look(0) -> 20; look(1) -> 0; look(2) -> 1 | 2 0 goes by 1 again: 11 or 9
# As it was, but for a load that is too light to matter.
load(0, 0, 0) -> 40; load(2, 0, 9) -> 39; load(1, 0, 9) -> 20; fits(NONE, 0) -> 0; house(0, 4) -> 3; stays(0) -> 2
height(0, 0, 0) -> 14; height(1, 0, 1) -> 18; height(2, 0, 1) -> 6; cell(2, 0, 2) -> 9; cell(2, 0, 3) -> 4
""");
    }

    /** The same ground: loads laid while the cart is on its way change what is asked at THE STEP and what is pushed. */
    private static void loadsUnderWay() {
        Story.run("loads under way", """
text g3 1 10 4;c1 0 20 2;m0 0 10,8;h1 0 9;k1 0 0 30;w0 0 5;w1 0 10;d110 122;
ground() -> 3; roll(2) -> 12; told(11) -> 12; cell(1, 0, 5) -> 18; house(0, 3) -> 1 | 18 less 6 at step 1
load(0, 0, 90) -> 0; cell(1, 0, 6) -> 12; load(2, 0, 90) -> 0; cell(1, 0, 6) -> 8; house(0, 3) -> 0 | both ends at 10
roll(2) -> NOT; roll(4) -> 0; told(8) -> 2; told(10) -> 0; told(11) -> 12 | open at 2 to the east; down to the west
cell(1, 0, 6) -> 12; house(0, 3) -> 1; breaks(3, 0) -> 4 | 22 less 10 at even steps now, 18 less 10 at odd ones
load(1, 0, 11) -> 0; house(0, 3) -> 1; load(1, 0, 20) -> 11; house(0, 3) -> 1; load(0, 0, 10) -> 90 | 21, then 20
height(0, 0, 2) -> 13; height(0, 0, 3) -> 7; roll(2) -> 13; told(11) -> 25; roll(4) -> 0; told(8) -> 4 | 20 less 7
steep(9) -> 20; roll(2) -> NOT; soonest(0, 10, 4) -> 2; least(0, 10, 4, 2, NONE) -> 7 | 13 at odd steps, 7 at even ones
load(0, 0, 30) -> 10; roll(2) -> NOT; load(0, 0, 40) -> 30; soonest(0, 10, 4) -> NONE | 11 at odd steps; 10 for ever
load(1, 0, 19) -> 20; soonest(0, 10, 4) -> 1; roll(2) -> 9; told(11) -> 34; told(8) -> 5 | 19 less 10 at odd steps
keep(0) -> 1; load(1, 0, 0) -> 19; load(2, 0, 0) -> 90; cell(1, 0, 6) -> 12; goBack(0) -> 1; cell(1, 0, 6) -> 9
write(4) -> 1; write(2) -> 2; judge(0) -> NONE; judge(1) -> 9; load(1, 0, 0) -> 19; judge(1) -> 8 | back at 7: 18 less 10
load(0, 0, 0) -> 40; judge(0) -> 1; judge(1) -> 0; steep(12) -> 9; judge(0) -> NONE; judge(1) -> 12 | 18 less 6
""");
    }

    /** P is 0 0 2 -1 1 1 in turn; 0 0 stands at 3 P, 1 1 at 5 P, the two others at 0. */
    private static void props() {
        Story.run("props", """
text g2 2 0 0;c0 0 0 3;c1 1 0 5;m0 0 9,10,11;m0 0 9,8;h0 0 2;h1 1 5;
ground() -> 4; told(9) -> 6; house(0, 4) -> 4; house(1, 4) -> 5 | 6 less 2, 10 less 5
breaks(0, 0) -> 2; breaks(0, 1) -> 0; breaks(3, 0) -> 3; breaks(6, 0) -> 8 | 3 at 3, 4, 5 is above 2
props(1) -> 9; props(4) -> 3; props(5) -> 2; props(20) -> 2; house(0, 3) -> 0
prop(0, 1) -> 0; breaks(0, 0) -> 2; breaks(3, 0) -> 8; breaks(3, 1) -> 0 | 3 is not above 2 and 1
prop(0, 3) -> 1; breaks(0, 0) -> 2; breaks(0, 1) -> 0; prop(0, 4) -> 3; breaks(0, 0) -> 2; breaks(0, 1) -> 1
house(0, 4) -> 4; house(1, 4) -> 5; props(4) -> 3 | what is needed is not less by what is there
prop(1, 4) -> 0; breaks(0, 0) -> 2; prop(1, 5) -> 4; breaks(0, 0) -> NONE; breaks(0, 1) -> NONE; breaks(900000, 0) -> NONE
pass(2) -> 2; house(0, 3) -> 0; house(1, 3) -> 0; cell(0, 0, 6) -> 6; cell(1, 1, 6) -> 10
prop(0, 3) -> 4; house(0, 3) -> 1; prop(1, 0) -> 5; house(1, 3) -> 1; house(0, 2) -> 3; house(1, 2) -> 0
bell(1, 1, 5, 0, 1) -> 1; bell(1, 1, 5, 3, 0) -> 5; bell(0, 0, 5, 0, 0) -> 2 | a bell does not ask for props
# A load on 0 0: it stands at P. A load on 1 1: at 4 P.
load(0, 0, 20) -> 0; house(0, 4) -> 0; house(0, 3) -> 0; props(1) -> 5; breaks(0, 1) -> 1 | 2 is not above 2
load(1, 1, 10) -> 0; house(1, 4) -> 3; props(1) -> 3; props(2) -> 2; prop(1, 3) -> 0; breaks(0, 0) -> NONE | 8 less 5
keep(1) -> 1; load(1, 1, 0) -> 10; prop(0, 999) -> 3; breaks(0, 0) -> 2; breaks(0, 1) -> 1; goBack(1) -> 1
breaks(0, 0) -> NONE; house(0, 2) -> 3; house(1, 2) -> 3; prop(1, 2) -> 3; breaks(0, 0) -> 2; breaks(3, 0) -> 8
# By a SHIFT of 1 of MOON 1: -1 1 1 0 0 2.
shift(1, 1) -> 0; breaks(0, 0) -> 5; breaks(0, 1) -> 1; house(1, 4) -> 3; house(1, 3) -> 0; cell(1, 1, 6) -> 4
load(0, 0, 0) -> 20; prop(0, 0) -> 3; house(0, 4) -> 4; house(0, 3) -> 1; breaks(0, 0) -> 0; breaks(0, 1) -> 0
breaks(3, 0) -> 5; breaks(3, 1) -> 0; prop(0, 5) -> 0; breaks(3, 1) -> 1; prop(2, 1) -> UNKNOWN; prop(0, 1000) -> OUTSIDE
text g2 2 0 0;c0 0 0 3;c1 1 0 5;m0 0 9,10,11;m0 0 9,8;h0 0 2;h1 1 5;
breaks(0, 0) -> 5; ground() -> 4; house(0, 2) -> 0; house(1, 2) -> 0; moon(1, 3) -> 0; breaks(0, 0) -> 2; breaks(0, 1) -> 0
""");
    }

    /** MOON 0: -1 1; MOON 1: -2 0 0 2. PULL -3 1 -1 3 in turn, by a SHIFT of 1 of MOON 0 -1 -1 1 1. 1 0 is rock at 10. */
    private static void shifts() {
        Story.run("shifts", """
text g2 1 10 2;c1 0 10 0;m0 0 8,10;m0 0 7,9,9,11;k0 0 0 31;h0 0 4;w0 0 0;w1 0 9;d106 114;
ground() -> 2; told(9) -> 4; height(0, 0, 0) -> 4; height(0, 0, 1) -> 12; height(0, 0, 2) -> 8; height(0, 0, 3) -> 16
moon(0, 4) -> -1; moon(1, 4) -> -2; most(0, 0, 0, 0) -> 3; most(0, 0, 0, 1) -> 3; turn(0, 0, 1) -> 0; turn(0, 0, 4) -> 0
crack(0, 1) -> 0; crack(0, 3) -> 1; house(0, 3) -> 1; house(0, 4) -> 2; breaks(1, 0) -> 3; props(1) -> 2 | open above 1
level(3, 2, 0) -> 1; level(3, 1, 0) -> NONE; aslant(0) -> 0; bell(0, 0, 2, 0, 1) -> 2; whose(0, 0) -> 2; stays(0) -> 2
water(5, 0, 0) -> 5; water(5, 0, 2) -> 3; water(5, 3, 0) -> 6; water(5, 3, 2) -> 2 | FLOORS 4 and 1: 3 and 1 and 1; 16 and 1
soonest(0, 10, 2) -> 2; soonest(0, 10, 0) -> 1; soonest(10, 0, 2) -> 2; least(10, 0, 0, 3, NONE) -> 0 | shut at 4, not at 3
odds(0, 25, 0, 0, 4, 0) -> 250000000; odds(1, 25, 0, 0, 4, 0) -> 250000000; odds(0, 25, 0, 0, 3, 0) -> 1000000000
see(0, 0, 0, 4) -> 1; fits(NONE, 0) -> 1; fits(0, 0) -> 0; fits(0, 1) -> 0
shift(0, 1) -> 0; height(0, 0, 0) -> 8; height(0, 0, 1) -> 8; height(0, 0, 2) -> 12; height(0, 0, 3) -> 12
fits(NONE, 0) -> 1; fits(0, 0) -> 0; fits(0, 1) -> 0 | what fits is told by what was seen, not by how they stand
moon(0, 3) -> 1; moon(0, 4) -> 1; most(0, 0, 0, 0) -> 2; most(0, 0, 0, 1) -> 1; turn(0, 0, 1) -> NONE; told(9) -> 4
crack(0, 3) -> 0; soonest(0, 10, 2) -> 1; house(0, 3) -> 0; house(0, 4) -> 0; breaks(1, 0) -> NONE; props(1) -> 0
level(3, 2, 0) -> 0; bell(0, 0, 2, 0, 1) -> 0; bell(0, 0, 1, 0, 1) -> 4; whose(0, 0) -> 3; stays(0) -> 3
water(5, 0, 0) -> 6; water(5, 0, 2) -> 2; odds(0, 25, 0, 0, 3, 0) -> 750000000; odds(1, 25, 0, 0, 1, 0) -> 1000000000
# SHIFTS 1 and 1: MOON 1 is 0 0 2 -2. PULL 1 -1 3 -3.
shift(1, 1) -> 0; height(0, 0, 0) -> 12; height(0, 0, 1) -> 8; height(0, 0, 2) -> 16; height(0, 0, 3) -> 4
most(0, 0, 0, 0) -> 2; most(0, 0, 3, 0) -> 6; crack(0, 2) -> 1; crack(0, 3) -> 0; breaks(0, 0) -> 2; breaks(3, 0) -> 3
keep(0) -> 1; shift(0, 999) -> 1; shift(1, 999) -> 1; moon(0, 3) -> 1; moon(1, 3) -> 3 | 999 left over by 2, by 4
# SHIFTS 1 and 3: MOON 1 is 2 -2 0 0. PULL 3 -3 1 -1.
height(0, 0, 0) -> 16; cell(0, 0, 4) -> 3; cell(0, 0, 5) -> 16; cell(0, 0, 6) -> 6; cell(1, 0, 6) -> 6; house(0, 3) -> 1
pass(3) -> 3; cell(0, 0, 4) -> -1; moon(0, 4) -> -1; moon(1, 4) -> 0; roll(2) -> NOT; roll(0) -> 0 | open at 4
roll(2) -> 6; told(10) -> 10; told(11) -> 6; roll(4) -> 2; told(11) -> 8; told(8) -> 6 | 10 less 4 at 5, 12 less 10 at 6
shift(1, 1) -> 3; write(2) -> 1; judge(0) -> NONE; judge(1) -> 6; shift(1, 3) -> 1; judge(1) -> 2 | at 7: 4, then 8
goBack(0) -> 1; moon(0, 3) -> 1; moon(1, 3) -> 1; told(8) -> 0; told(10) -> 0; judge(1) -> 2 | at 1: 10 less 8
shift(0, 4) -> 1; shift(1, 4) -> 1; height(0, 0, 0) -> 4; height(0, 0, 3) -> 16; house(0, 4) -> 2; stays(0) -> 2
shift(2, 0) -> UNKNOWN; shift(0, 1000) -> OUTSIDE; shift(0, -1) -> OUTSIDE; height(0, 0, 0) -> 4
""");
    }

    /** A MOON that comes later to the east and the south: 2 at one CELL in three, 0 else; X and Y each count for one. */
    private static void shiftsApart() {
        Story.run("shifts of a moon that passes over", """
text g3 2 0 1;m1 1 11,9,9;h1 0 1;h2 1 2;k0 0 1 31;d101 102;w0 0 0;w2 1 0;
ground() -> 6; whose(0, 0) -> 33; whose(0, 1) -> 20 | at 0 those with X and Y of 0 or 3 in all; at 1 those with 2
whose(0, 2) -> 10; stays(0) -> 0; most(0, 0, 1, 0) -> 3; most(1, 0, 0, 0) -> 2; most(2, 1, 1, 0) -> 3
cell(0, 0, 6) -> 2; cell(1, 0, 6) -> 2; cell(2, 0, 6) -> 2; house(0, 4) -> 1; house(1, 4) -> 0; breaks(0, 1) -> 0
level(33, 0, 1) -> 0; level(33, 0, 0) -> 0; level(3, 0, 0) -> 1; level(63, 1, 0) -> NONE; aslant(0) -> NONE
soonest(0, 1, 0) -> 1; soonest(0, 1, 2) -> 2; crack(0, 0) -> 1; crack(0, 1) -> 0 | open at 0, 3, 6
water(1, 0, 0) -> 5; water(1, 0, 1) -> 2; water(1, 1, 0) -> 1; water(1, 1, 1) -> 2; water(1, 1, 2) -> 3 | like FLOORS
shift(0, 1) -> 0; whose(0, 0) -> 20; whose(0, 2) -> 33; most(0, 0, 1, 0) -> 2; most(1, 0, 0, 0) -> 1 | a step sooner
soonest(0, 1, 0) -> 1; soonest(0, 1, 1) -> 2; level(3, 0, 0) -> 0; crack(0, 2) -> 1; moon(0, 4) -> 0
load(2, 1, 10) -> 0; whose(0, 2) -> 1; level(33, 0, 2) -> 1; level(33, 0, 1) -> 0; water(1, 2, 0) -> 1 | 2 1 stays at 0, 0 0 is 2 at 2
water(1, 2, 1) -> 1; water(1, 2, 2) -> 2; water(3, 2, 0) -> 5; water(3, 2, 1) -> 2; water(3, 2, 2) -> 3
see(1, 0, 4, 2) -> 1; fits(NONE, 0) -> 1; fits(0, 0) -> 1; tear() -> 1; see(1, 0, 4, 0) -> 1; fits(NONE, 0) -> 2
fits(0, 0) -> 0; fits(1, 0) -> 2; look(0) -> 0; look(1) -> 0; look(2) -> 1 | by 0 it is 2 at 0 0 and step 0, by 2 it is 0
load(0, 0, 10) -> 0; look(0) -> 10; look(1) -> 0; load(2, 0, 10) -> 0; look(0) -> 10; load(1, 0, 10) -> 0 | by 2 it is 2 at 1 0
fits(NONE, 0) -> 3; look(0) -> 1; look(1) -> 0; look(2) -> 2 | a stiff 1 0 is at 0 by all
load(0, 1, 10) -> 0; look(0) -> 11; load(1, 1, 10) -> 0; look(0) -> NONE; fits(NONE, 0) -> 3
pass(900) -> 900; shift(0, 2) -> 1; fits(NONE, 0) -> 3; fits(2, 0) -> 2; fits(3, 0) -> NONE; aslant(3) -> NONE
""");
    }
}
