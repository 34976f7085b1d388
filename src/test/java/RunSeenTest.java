/** Long runs of what was seen: what fits and where to look next, while loads, shifts, steps and images change around it. */
public final class RunSeenTest {
    public static void main(String[] args) {
        seenAndLoads();
        looks();
        threeMoons();
        longRows();
        seenAndImages();
        odds();
        Check.end();
    }

    /**
     * MOON 0: 0 1 2; MOON 1: 0 3, a step later in the east. By SHIFTS a b 0 0 stands at 5 and a and 3 times b at step 0:
     * six different heights.
     */
    private static void seenAndLoads() {
        Story.run("seen, and loads", """
text g2 1 5 1;c1 0 5 3;m0 0 9,10,11;m1 0 9,12;
ground() -> 2; fits(NONE, 0) -> 6; fits(0, 0) -> 0; fits(0, 1) -> 0; fits(1, 0) -> 0; fits(1, 1) -> 1; fits(2, 0) -> 1
fits(2, 1) -> 0; fits(5, 0) -> 2; fits(5, 1) -> 1; fits(6, 0) -> NONE; fits(6, 2) -> UNKNOWN; fits(NONE, 2) -> 6
look(0) -> 0; look(1) -> 0; look(2) -> 1; load(0, 0, 10) -> 0; look(0) -> 10; look(1) -> 0; look(2) -> 1
load(1, 0, 30) -> 0; look(0) -> NONE; fits(NONE, 0) -> 6; load(1, 0, 29) -> 30; look(0) -> 10; look(2) -> 1
load(0, 0, 0) -> 10; load(1, 0, 0) -> 29; look(0) -> 0
see(0, 0, 0, 8) -> 1; fits(NONE, 0) -> 1; fits(0, 0) -> 0; fits(0, 1) -> 1; look(0) -> NONE | 5 and 3: a 0, b 1
load(0, 0, 10) -> 0; fits(NONE, 0) -> 0; load(0, 0, 9) -> 10; fits(NONE, 0) -> 1; tear() -> 1; fits(NONE, 0) -> 6
# 1 0 at step 1 is at 5 by a 2 (0 at 3) and b 0 (0 at 2) alone; stiff, it is at 5 by all.
see(1, 0, 1, 5) -> 1; fits(NONE, 0) -> 1; fits(0, 0) -> 2; fits(0, 1) -> 0; load(1, 0, 30) -> 0; fits(NONE, 0) -> 6
load(1, 0, 0) -> 30; fits(NONE, 0) -> 1; height(1, 0, 1) -> 8; shift(0, 2) -> 0; height(1, 0, 1) -> 5; fits(0, 0) -> 2
pass(7) -> 7; fits(NONE, 0) -> 1; fits(0, 0) -> 2; see(1, 0, 7, 5) -> 2; fits(NONE, 0) -> 1; see(1, 0, 999, 14) -> 3
fits(NONE, 0) -> 0; tear() -> 3; see(1, 0, 999, 14) -> 1; fits(NONE, 0) -> 1; fits(0, 0) -> 0; fits(0, 1) -> 1
# 14 is 5 and 3 times 3: MOON 0 at 0, so a 0 (999 leaves 0 by 3); MOON 1 at 3, so b 1 (1000 leaves 0 by 2). 8 is 5 and 3.
look(0) -> NONE; tear() -> 1; see(1, 0, 3, 8) -> 1; fits(NONE, 0) -> 1; fits(0, 0) -> 1; fits(0, 1) -> 0; told(13) -> 1
# THE SEED of 0 draws staying, and 7 more on CELL 0: from 3 on that makes it stiff.
tear() -> 1; load(0, 0, 3) -> 9; see(0, 0, 0, 7) -> 1; fits(NONE, 0) -> 1; fits(0, 0) -> 2; fits(0, 1) -> 0; seed(0) -> 0
drift(1) -> 0; cell(0, 0, 2) -> 10; cell(0, 0, 3) -> 0; fits(NONE, 0) -> 0; look(0) -> NONE; tear() -> 1; look(0) -> 10
see(0, 0, 0, 5) -> 1; fits(NONE, 0) -> 6; look(0) -> 10; look(1) -> 0; look(2) -> 1; told(8) -> 8
text g2 1 5 1;c1 0 5 3;m0 0 9,10,11;m1 0 9,12;
fits(NONE, 0) -> 6; ground() -> 2; told(13) -> 0; look(0) -> 0; cell(0, 0, 3) -> 1; moon(0, 3) -> 0
""");
    }

    /** MOON 0: 0 0 0 1; MOON 1: 0 0 1, a step later in the east; 2 0 is rock. Of twelve SHIFTS six lift 0 0 by nothing. */
    private static void looks() {
        Story.run("looks", """
text g3 1 0 1;c2 0 0 0;m0 0 9,9,9,10;m1 0 9,9,10;
ground() -> 3; told(9) -> 12; fits(NONE, 0) -> 12; look(0) -> 0; look(1) -> 0; look(2) -> 6
# 0 2, 1 2, 2 2, 3 0, 3 1 lift it by 1.
see(0, 0, 0, 1) -> 1; fits(NONE, 0) -> 5; fits(0, 0) -> 0; fits(0, 1) -> 2; fits(2, 0) -> 2; fits(3, 0) -> 3; fits(3, 1) -> 0
fits(4, 1) -> 1; look(0) -> 10; look(1) -> 2; look(2) -> 2 | 1 2 1 0 0 there; all before leave three or more
load(1, 0, 10) -> 0; look(0) -> 0; look(1) -> 3; look(2) -> 2 | 2 1 1 0 0 at 0 0, where it was 0 0 1 0 1 and 0 1 0 1 0
load(0, 0, 10) -> 0; look(0) -> NONE; fits(NONE, 0) -> 0; load(0, 0, 0) -> 10; load(1, 0, 0) -> 10; look(1) -> 2
see(1, 0, 2, 1) -> 2; fits(NONE, 0) -> 2; fits(0, 0) -> 0; fits(0, 1) -> 2; fits(1, 0) -> 2; fits(1, 1) -> 2
look(0) -> 0; look(1) -> 1; look(2) -> 1; see(0, 0, 1, 1) -> 3; fits(NONE, 0) -> 1; fits(0, 0) -> 2; look(0) -> NONE
# As it is told, so it stands behind these SHIFTS.
shift(0, 2) -> 0; shift(1, 2) -> 0; height(0, 0, 0) -> 1; height(1, 0, 2) -> 1; height(0, 0, 1) -> 1; fits(NONE, 0) -> 1
see(2, 0, 5, 0) -> 4; fits(NONE, 0) -> 1; see(2, 0, 5, 0) -> 5; see(2, 0, 6, 0) -> 6; see(2, 0, 7, 0) -> 7; told(13) -> 7
see(0, 0, 12, 1) -> 8; see(0, 0, 24, 1) -> 9; see(1, 0, 14, 1) -> 10; see(0, 0, 13, 1) -> 11; fits(NONE, 0) -> 1
see(1, 0, 990, 0) -> 12; fits(NONE, 0) -> 1 | 992 leaves 0 by 4, 993 leaves 0 by 3: 0 and 0
see(2, 0, 0, 0) -> FULL; see(3, 0, 0, 0) -> UNKNOWN; see(2, 0, 1000, 0) -> OUTSIDE; told(13) -> 12; fits(0, 1) -> 2
write(1) -> 1; tear() -> 13; fits(NONE, 0) -> 12; look(2) -> 6; told(13) -> 0; told(14) -> 0
""");
    }

    /** Rows 0 1, 0 1 (a step later in the east), 0 4. By SHIFTS a b c 0 0 stands at a and b and 4 times c at step 0. */
    private static void threeMoons() {
        Story.run("three moons", """
text g2 1 0 1;c1 0 0 2;m0 0 9,10;m1 0 9,10;m0 0 9,13;
ground() -> 2; told(2) -> 3; told(9) -> 2; fits(NONE, 0) -> 8; fits(1, 0) -> 0; fits(1, 1) -> 0; fits(1, 2) -> 1
fits(2, 0) -> 0; fits(2, 1) -> 1; fits(2, 2) -> 0; fits(4, 0) -> 1; fits(4, 1) -> 0; fits(7, 2) -> 1; fits(8, 2) -> NONE
look(0) -> 0; look(1) -> 0; look(2) -> 2 | 1 and 5 by two each
see(0, 0, 0, 1) -> 1; fits(NONE, 0) -> 2; fits(0, 0) -> 0; fits(0, 1) -> 1; fits(0, 2) -> 0; fits(1, 0) -> 1; fits(1, 1) -> 0
look(0) -> 10; look(1) -> 0; look(2) -> 1; load(1, 0, 20) -> 0; look(0) -> NONE; fits(NONE, 0) -> 2 | 1 and 5 at 0 0 by both
load(1, 0, 10) -> 20; look(0) -> 10; see(1, 0, 3, 4) -> 2; fits(NONE, 0) -> 1; fits(0, 0) -> 1; fits(0, 1) -> 0; fits(0, 2) -> 0
load(1, 0, 0) -> 10; fits(NONE, 0) -> 0; shift(0, 1) -> 0; height(0, 0, 0) -> 1; height(1, 0, 3) -> 8; load(1, 0, 10) -> 0
height(1, 0, 3) -> 4; fits(NONE, 0) -> 1; moon(2, 4) -> 0; pass(1) -> 1; moon(2, 4) -> 4; moon(0, 4) -> 0; moon(1, 4) -> 1
most(0, 0, 0, 0) -> 1; most(0, 0, 0, 1) -> 5; most(1, 0, 0, 0) -> 1; most(1, 0, 0, 1) -> 4; cell(0, 0, 6) -> 1
odds(2, 50, 0, 0, 0, 1) -> 1000000000; load(1, 0, 0) -> 10; odds(2, 50, 0, 0, 2, 1) -> 500000000 | 5 and 8, without it 1 and 0
tear() -> 2; see(0, 0, 0, 6) -> 1; fits(NONE, 0) -> 1; fits(0, 0) -> 1; fits(0, 1) -> 1; fits(0, 2) -> 1; shift(2, 1) -> 0
see(1, 0, 0, 10) -> 2; fits(NONE, 0) -> 1; shift(1, 1) -> 0; height(0, 0, 0) -> 6; height(1, 0, 0) -> 10; cell(1, 0, 5) -> 2
tear() -> 2; see(0, 0, 1, 4) -> 1; fits(NONE, 0) -> 1; fits(0, 0) -> 1; fits(0, 1) -> 1; fits(0, 2) -> 0 | 4 at 1: c is 0 there
see(0, 0, 1, 3) -> 2; fits(NONE, 0) -> 0; fits(0, 0) -> NONE; look(1) -> NONE; tear() -> 2; look(2) -> 2
""");
    }

    /** Three rows of nine: 9 once, -9 once, 0 seven times. Of 729 SHIFTS 385 leave 50 as it is, 150 lift it by 9. */
    private static void longRows() {
        Story.run("rows of nine", """
text g1 1 50 1;m0 0 18,0,9,9,9,9,9,9,9;m0 0 18,0,9,9,9,9,9,9,9;m0 0 18,0,9,9,9,9,9,9,9;
ground() -> 1; told(9) -> 9; fits(NONE, 0) -> 729; look(0) -> 0; look(1) -> 0; look(2) -> 385 | 343, and 42 with both 9 and -9
fits(728, 0) -> 8; fits(728, 2) -> 8; fits(729, 0) -> NONE; fits(81, 0) -> 1; fits(81, 1) -> 0; fits(9, 1) -> 1; fits(9, 2) -> 0
height(0, 0, 0) -> 77; height(0, 0, 1) -> 23; height(0, 0, 2) -> 50; turn(0, 0, 1) -> 0; turn(0, 0, 2) -> 7; most(0, 0, 1, 0) -> 9
see(0, 0, 0, 59) -> 1; fits(NONE, 0) -> 150; fits(0, 0) -> 0; fits(0, 1) -> 0; fits(0, 2) -> 1; fits(1, 1) -> 1; fits(1, 2) -> 0
fits(2, 1) -> 2; fits(2, 2) -> 2; fits(149, 0) -> 8; fits(149, 1) -> 8; fits(149, 2) -> 0; fits(150, 0) -> NONE
tear() -> 1; see(0, 0, 0, 77) -> 1; fits(NONE, 0) -> 1; tear() -> 1; see(0, 0, 9, 23) -> 1; fits(NONE, 0) -> 1; fits(0, 1) -> 1
tear() -> 1; see(0, 0, 0, 68) -> 1; fits(NONE, 0) -> 21; tear() -> 1; see(0, 0, 0, 60) -> 1; fits(NONE, 0) -> 0; tear() -> 1
shift(0, 8) -> 0; shift(1, 8) -> 0; height(0, 0, 0) -> 59; height(0, 0, 1) -> 59; height(0, 0, 2) -> 32; turn(0, 0, 1) -> 1
most(0, 0, 0, 0) -> 0; most(0, 0, 1, 0) -> 1; load(0, 0, 10) -> 0; look(0) -> NONE
most(0, 0, 0, 1) -> 9; fits(NONE, 0) -> 729; turn(0, 0, 1) -> NONE
""");
    }

    /** MOON 0: 1 -1. Images keep loads, shifts and THE STEP; what was seen and the book are as they are. */
    private static void seenAndImages() {
        Story.run("seen, and images", """
text g1 2 10 3;m0 1 10,8;
ground() -> 2; keep(0) -> 1; see(0, 0, 0, 13) -> 1; fits(NONE, 0) -> 1; fits(0, 0) -> 0; write(3) -> 1; judge(1) -> 6
load(0, 0, 10) -> 0; fits(NONE, 0) -> 0; keep(1) -> 1; see(0, 1, 4, 7) -> 2; fits(NONE, 0) -> 0; judge(1) -> 5 | 13 less 8
goBack(0) -> 1; told(13) -> 2; told(14) -> 1; cell(0, 0, 2) -> 0; fits(NONE, 0) -> 1; fits(0, 0) -> 0; judge(1) -> 6
goBack(1) -> 1; cell(0, 0, 2) -> 10; fits(NONE, 0) -> 0; told(13) -> 2; judge(1) -> 5; tear() -> 3; goBack(0) -> 1
told(13) -> 0; told(14) -> 0; fits(NONE, 0) -> 2; look(0) -> 0; look(2) -> 1; shift(0, 1) -> 0; keep(0) -> 1
see(0, 1, 3, 7) -> 1; fits(NONE, 0) -> 1; fits(0, 0) -> 1; height(0, 1, 3) -> 7; moon(0, 3) -> 1 | row at 3, 1, 1: at 5
shift(0, 0) -> 1; fits(0, 0) -> 1; height(0, 1, 3) -> 13; goBack(1) -> 1; moon(0, 3) -> 0; fits(0, 0) -> 1; goBack(0) -> 1
moon(0, 3) -> 1; fits(0, 0) -> 1; pass(9) -> 9; see(0, 0, 9, 13) -> 2; fits(NONE, 0) -> 1; cell(0, 0, 5) -> 13
load(0, 1, 30) -> 0; fits(NONE, 0) -> 0; look(0) -> NONE; goBack(0) -> 1; fits(NONE, 0) -> 1; told(8) -> 0; told(13) -> 2
text g1 2 10 3;m0 1 10;
fits(0, 0) -> 1; ground() -> -11; fault() -> 17; told(13) -> 2; fits(0, 0) -> 1; goBack(1) -> 1; cell(0, 0, 2) -> 10
text g1 2 10 3;m0 1 10,8;
told(7) -> 20; ground() -> 2; told(13) -> 0; goBack(0) -> NOT; goBack(1) -> NOT; fits(NONE, 0) -> 2; cell(0, 0, 2) -> 0
""");
    }

    /** MOON 0: 2 0, everywhere alike; MOON 1: 0 0 3, a step later in the east. 1 0 goes by 2, 2 0 by 1, 0 0 is rock. */
    private static void odds() {
        Story.run("odds", """
text g3 1 10 1;c0 0 10 0;c1 0 10 2;m0 0 11,9;m1 0 9,9,12;
ground() -> 3; height(0, 0, 0) -> 10; height(1, 0, 0) -> 14; height(2, 0, 0) -> 15; cell(1, 0, 6) -> 4 | PULL 2, 2, 5
odds(0, 20, 1, 0, 3, 0) -> 200000000; odds(0, 20, 1, 0, 2, 0) -> 1000000000 | without MOON 0: 10 10 13
odds(0, 20, 1, 0, 4, 0) -> 0; odds(1, 20, 1, 0, 3, 0) -> 1000000000; odds(0, 20, 2, 0, 0, 0) -> 1000000000
odds(1, 20, 2, 0, 1, 0) -> 800000000; odds(1, 20, 2, 0, 2, 0) -> 0; odds(1, 1, 2, 0, 0, 0) -> 1000000000 | 14 12 without MOON 1
odds(1, 99, 2, 0, 1, 0) -> 10000000; odds(1, 100, 2, 0, 1, 0) -> 0; odds(1, 0, 2, 0, 1, 0) -> 1000000000
# At 1: PULL 0, 3, 0: 10 16 10.
odds(0, 20, 1, 0, 5, 1) -> 1000000000; odds(1, 20, 1, 0, 5, 1) -> 200000000; odds(1, 20, 1, 0, 6, 1) -> 0
load(1, 0, 10) -> 0; odds(1, 20, 1, 0, 2, 1) -> 200000000; odds(1, 20, 1, 0, 3, 1) -> 0; load(1, 0, 20) -> 10
odds(1, 20, 1, 0, 0, 1) -> 0; odds(0, 20, 1, 0, 4, 0) -> 200000000; odds(0, 20, 1, 0, 2, 0) -> 1000000000 | 10 10 15, 10 10 13
shift(1, 1) -> 0; height(2, 0, 0) -> 12; odds(1, 30, 1, 0, 1, 0) -> 1000000000; odds(0, 30, 1, 0, 1, 0) -> 300000000
odds(0, 30, 1, 0, 0, 900000) -> 300000000; odds(1, 30, 2, 0, 2, 2) -> 300000000; odds(1, 30, 2, 0, 2, 5) -> 300000000
# At 2 and 5 by a SHIFT of 1: MOON 1 is at 5 and 8 in the far east: 3. At 2 MOON 0 is 2 all the same.
keep(0) -> 1; load(2, 0, 10) -> 0; odds(1, 30, 2, 0, 0, 2) -> 0; load(1, 0, 0) -> 20; odds(1, 30, 2, 0, 3, 2) -> 1000000000
odds(0, 30, 2, 0, 3, 2) -> 300000000; goBack(0) -> 1; odds(1, 30, 2, 0, 2, 2) -> 300000000; odds(1, 30, 2, 0, 1, 2) -> 1000000000
odds(2, 30, 2, 0, 1, 2) -> UNKNOWN; odds(1, 101, 2, 0, 1, 2) -> OUTSIDE; odds(1, 30, 3, 0, 1, 2) -> UNKNOWN
""");
    }
}
