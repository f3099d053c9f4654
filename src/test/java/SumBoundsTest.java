/** The sentences of the document that bound what is asked of numbers and their sums, one by one. */
public final class SumBoundsTest {
    private static final int BAD = -1, NO = -2, NONE = -4;
    private static final String ALL = Given.upTo(0, 40) + ";";

    private SumBoundsTest() {
    }

    public static void main(String[] args) {
        members();
        membersOfNoneAndAll();
        sumsOfNone();
        sumsEachOnce();
        sumsAtTheEnds();
        differencesAtTheEnds();
        differencesOfNone();
        timesOne();
        timesUpToSix();
        ways();
        waysOfNoneAndAll();
        energies();
        slotsAsTheyAreThen();
        Due.end();
    }

    private static void members() {
        Due.sentence("How many numbers a SLOT has (i = -1), the i-th, the least first. BAD (k; i below -1); NONE: not so many.");
        LittleSums x = Given.told("s0,40;s1,0,39,40;");
        Due.is("member(0, -1)", x.member(0, -1), 1);
        Due.is("member(0, 0)", x.member(0, 0), 40);
        Due.is("member(0, 1)", x.member(0, 1), NONE);
        Due.is("member(1, -1)", x.member(1, -1), 3);
        Due.is("member(1, 0)", x.member(1, 0), 0);
        Due.is("member(1, 2)", x.member(1, 2), 40);
        Due.is("member(1, 3)", x.member(1, 3), NONE);
        Due.is("member(1, 64)", x.member(1, 64), NONE);
        Due.is("member(1, MAX)", x.member(1, Integer.MAX_VALUE), NONE);
        Due.is("member(1, -2)", x.member(1, -2), BAD);
        Due.is("member(1, MIN)", x.member(1, Integer.MIN_VALUE), BAD);
        Due.is("member(-1, -1)", x.member(-1, -1), BAD);
        Due.is("member(4, -1)", x.member(4, -1), BAD);
        Due.is("member(4, 99), BAD ahead of NONE", x.member(4, 99), BAD);
    }

    private static void membersOfNoneAndAll() {
        LittleSums x = Given.told("s1" + ALL);
        Due.is("member(0, -1) of none", x.member(0, -1), 0);
        Due.is("member(0, 0) of none", x.member(0, 0), NONE);
        Due.is("member(0, -2) of none", x.member(0, -2), BAD);
        Due.is("member(1, -1) of all", x.member(1, -1), 41);
        Due.is("member(1, 40) of all", x.member(1, 40), 40);
        Due.is("member(1, 41) of all", x.member(1, 41), NONE);
    }

    private static void sumsOfNone() {
        Due.sentence("none, if one of the two has none");
        LittleSums x = Given.told("s0,0,40;");
        Due.is("sum(0, 1, -1)", x.sum(0, 1, -1), 0);
        Due.is("sum(1, 0, -1)", x.sum(1, 0, -1), 0);
        Due.is("sum(1, 2, -1)", x.sum(1, 2, -1), 0);
        Due.is("sum(0, 1, 0)", x.sum(0, 1, 0), NONE);
        Due.is("sum(1, 0, 0)", x.sum(1, 0, 0), NONE);
        Due.is("sum(1, 1, 0)", x.sum(1, 1, 0), NONE);
        Due.is("sum(1, 1, -2), BAD ahead of NONE", x.sum(1, 1, -2), BAD);
    }

    private static void sumsEachOnce() {
        Due.sentence("SUMS of A and B: all a and b together, a of A, b of B (each number once;");
        LittleSums x = Given.told("s0,1,2,3;s1,5,6,7;");
        Due.is("sum(0, 1, -1), 8 in three ways", x.sum(0, 1, -1), 5);
        for (int i = 0; i < 5; i++) {
            Due.is("sum(0, 1, " + i + ")", x.sum(0, 1, i), 6 + i);
            Due.is("sum(1, 0, " + i + ")", x.sum(1, 0, i), 6 + i);
        }
        Due.is("sum(0, 1, 5)", x.sum(0, 1, 5), NONE);
        Due.is("sum(0, 0, 0), one number with itself", x.sum(0, 0, 0), 2);
        Due.is("sum(0, 0, 4), one number with itself", x.sum(0, 0, 4), 6);
    }

    private static void sumsAtTheEnds() {
        Due.sentence("SUMS of two SLOTS: how many (i = -1), the i-th, the least first. BAD; NONE: not so many.");
        LittleSums x = Given.told("s0,0;s1,40;s2" + ALL);
        Due.is("sum(0, 0, 0)", x.sum(0, 0, 0), 0);
        Due.is("sum(1, 1, 0)", x.sum(1, 1, 0), 80);
        Due.is("sum(1, 1, 1)", x.sum(1, 1, 1), NONE);
        Due.is("sum(2, 2, -1)", x.sum(2, 2, -1), 81);
        for (int i = 0; i <= 80; i++) {
            Due.is("sum(2, 2, " + i + ")", x.sum(2, 2, i), i);
        }
        Due.is("sum(2, 2, 81)", x.sum(2, 2, 81), NONE);
        Due.is("sum(2, 2, MAX)", x.sum(2, 2, Integer.MAX_VALUE), NONE);
        Due.is("sum(2, 2, -2)", x.sum(2, 2, -2), BAD);
        Due.is("sum(-1, 2, -1)", x.sum(-1, 2, -1), BAD);
        Due.is("sum(2, 4, 99), BAD ahead of NONE", x.sum(2, 4, 99), BAD);
    }

    private static void differencesAtTheEnds() {
        Due.sentence("DIFFERENCES: all a less b, told as 40 more (0 to 80).");
        LittleSums x = Given.told("s0,0;s1,40;s2" + ALL);
        Due.is("difference(0, 1, 0), 0 less 40", x.difference(0, 1, 0), 0);
        Due.is("difference(1, 0, 0), 40 less 0", x.difference(1, 0, 0), 80);
        Due.is("difference(0, 0, 0)", x.difference(0, 0, 0), 40);
        Due.is("difference(1, 1, 0)", x.difference(1, 1, 0), 40);
        Due.is("difference(1, 1, 1)", x.difference(1, 1, 1), NONE);
        Due.is("difference(2, 2, -1)", x.difference(2, 2, -1), 81);
        for (int i = 0; i <= 80; i++) {
            Due.is("difference(2, 2, " + i + ")", x.difference(2, 2, i), i);
        }
        Due.is("difference(2, 2, 81)", x.difference(2, 2, 81), NONE);
        Due.is("difference(2, 0, 0)", x.difference(2, 0, 0), 40);
        Due.is("difference(2, 0, 40)", x.difference(2, 0, 40), 80);
        Due.is("difference(0, 2, 0)", x.difference(0, 2, 0), 0);
        Due.is("difference(0, 2, 41)", x.difference(0, 2, 41), NONE);
    }

    private static void differencesOfNone() {
        Due.sentence("DIFFERENCES of two SLOTS: how many (i = -1), the i-th, as told, the least first. BAD; NONE.");
        LittleSums x = Given.told("s0,3,7;");
        Due.is("difference(0, 1, -1)", x.difference(0, 1, -1), 0);
        Due.is("difference(1, 0, -1)", x.difference(1, 0, -1), 0);
        Due.is("difference(1, 1, -1)", x.difference(1, 1, -1), 0);
        Due.is("difference(0, 1, 0)", x.difference(0, 1, 0), NONE);
        Due.is("difference(1, 0, 0)", x.difference(1, 0, 0), NONE);
        Due.is("difference(0, 0, -1)", x.difference(0, 0, -1), 3);
        Due.is("difference(0, 0, 0)", x.difference(0, 0, 0), 36);
        Due.is("difference(0, 0, 2)", x.difference(0, 0, 2), 44);
        Due.is("difference(0, 0, 3)", x.difference(0, 0, 3), NONE);
        Due.is("difference(0, 0, MAX)", x.difference(0, 0, Integer.MAX_VALUE), NONE);
        Due.is("difference(0, 0, -2)", x.difference(0, 0, -2), BAD);
        Due.is("difference(1, 1, -2), BAD ahead of NONE", x.difference(1, 1, -2), BAD);
        Due.is("difference(4, 0, 99), BAD ahead of NONE", x.difference(4, 0, 99), BAD);
        Due.is("difference(0, -1, 99), BAD ahead of NONE", x.difference(0, -1, 99), BAD);
    }

    private static void timesOne() {
        Due.sentence("SUMS of n times A: A itself for n 1, for more SUMS of A and SUMS of n less 1 times A.");
        LittleSums x = Given.told("s0,3;s1,0,1,3;s2" + ALL);
        Due.is("times(0, 1)", x.times(0, 1), 1);
        Due.is("times(1, 1)", x.times(1, 1), 3);
        Due.is("times(2, 1)", x.times(2, 1), 41);
        Due.is("times(3, 1) of none", x.times(3, 1), 0);
        Due.is("times(1, 2), as sum tells", x.times(1, 2), x.sum(1, 1, -1));
        Due.is("times(1, 3), 0 to 7 and 9", x.times(1, 3), 9);
    }

    private static void timesUpToSix() {
        Due.sentence("How many SUMS of n times (1 to 6) a SLOT there are. BAD.");
        LittleSums x = Given.told("s0,40;s1,0,40;s2" + ALL);
        for (int n = 1; n <= 6; n++) {
            Due.is("times(0, " + n + ")", x.times(0, n), 1);
            Due.is("times(1, " + n + ")", x.times(1, n), n + 1);
            Due.is("times(2, " + n + "), all of 0 to " + 40 * n, x.times(2, n), 40 * n + 1);
            Due.is("times(3, " + n + ") of none", x.times(3, n), 0);
        }
        Due.is("times(0, 0)", x.times(0, 0), BAD);
        Due.is("times(0, 7)", x.times(0, 7), BAD);
        Due.is("times(3, 0) of none", x.times(3, 0), BAD);
        Due.is("times(3, 7) of none", x.times(3, 7), BAD);
        Due.is("times(-1, 6)", x.times(-1, 6), BAD);
        Due.is("times(4, 6)", x.times(4, 6), BAD);
    }

    private static void ways() {
        Due.sentence("In how many ways v (0 to 80) is a and b together, a of the one SLOT, b of the other one. BAD.");
        LittleSums x = Given.told("s0,0,1;s1,40;s2,39,40;");
        Due.is("ways(0, 0, 0)", x.ways(0, 0, 0), 1);
        Due.is("ways(0, 0, 1), 0 and 1, 1 and 0", x.ways(0, 0, 1), 2);
        Due.is("ways(0, 0, 2)", x.ways(0, 0, 2), 1);
        Due.is("ways(0, 0, 3)", x.ways(0, 0, 3), 0);
        Due.is("ways(1, 1, 80)", x.ways(1, 1, 80), 1);
        Due.is("ways(2, 1, 80)", x.ways(2, 1, 80), 1);
        Due.is("ways(2, 2, 79)", x.ways(2, 2, 79), 2);
        Due.is("ways(0, 2, 40)", x.ways(0, 2, 40), 2);
        Due.is("ways(0, 0, 80)", x.ways(0, 0, 80), 0);
        Due.is("ways(1, 1, 0)", x.ways(1, 1, 0), 0);
        Due.is("ways(0, 0, -1)", x.ways(0, 0, -1), BAD);
        Due.is("ways(1, 1, 81)", x.ways(1, 1, 81), BAD);
        Due.is("ways(-1, 0, 0)", x.ways(-1, 0, 0), BAD);
        Due.is("ways(0, 4, 0)", x.ways(0, 4, 0), BAD);
    }

    private static void waysOfNoneAndAll() {
        LittleSums x = Given.told("s0" + ALL);
        for (int v = 0; v <= 80; v++) {
            Due.is("ways(0, 0, " + v + ") of all", x.ways(0, 0, v), 41 - Math.abs(40 - v));
            Due.is("ways(0, 1, " + v + ") with none", x.ways(0, 1, v), 0);
        }
        Due.is("ways(1, 0, 40) with none", x.ways(1, 0, 40), 0);
        Due.is("ways(1, 1, 81) of none", x.ways(1, 1, 81), BAD);
    }

    private static void energies() {
        Due.sentence("How many (a, b, c, d) of a SLOT there are, a and b together being c and d together (ENERGY). BAD.");
        LittleSums x = Given.told("s1,40;s2,0,40;s3" + ALL);
        Due.is("energy(0) of none", x.energy(0), 0);
        Due.is("energy(1) of one", x.energy(1), 1);
        Due.is("energy(2) of two", x.energy(2), 6);
        int all = 0;
        for (int v = 0; v <= 80; v++) {
            int ways = 41 - Math.abs(40 - v);
            all += ways * ways;
        }
        Due.is("energy(3) of all", x.energy(3), all);
        Due.is("energy(-1)", x.energy(-1), BAD);
        Due.is("energy(4)", x.energy(4), BAD);
    }

    /** The same questions ahead of a change, behind it and behind its undoing. */
    private static void slotsAsTheyAreThen() {
        Due.sentence("What is asked is told of SLOTS as they are then;");
        LittleSums x = Given.told("s0,0,1,2;s1,0,1,2;");
        threeInARow(x);
        x.put(0, 4);
        Due.is("sum(0, 0, -1) behind put", x.sum(0, 0, -1), 8);
        Due.is("cover(0, 2) behind put", x.cover(0, 2), 5);
        Due.is("grid(0, 4) behind put", x.grid(0, 4), 3);
        Due.is("alike(0, 1) behind put", x.alike(0, 1), NO);
        Due.is("partner(0, 1, 0) behind put", x.partner(0, 1, 0), NO);
        Due.is("swell(1, 0, 0) behind put, 0 to 6 by 3 numbers", x.swell(1, 0, 0), 7);
        Due.is("room(0) behind put", x.room(0), 0);
        x.undo();
        threeInARow(x);
        x.move(1, 1, 9, 5);
        Due.is("sum(0, 1, -1) behind move", x.sum(0, 1, -1), 9);
        Due.is("partner(0, 1, 2) behind move", x.partner(0, 1, 2), 23);
        Due.is("swell(0, 1, 0) behind move", x.swell(0, 1, 0), 3);
        Due.is("tight(0, 1) behind move", x.tight(0, 1), 0);
        x.undo();
        threeInARow(x);
        Due.is("lay()", x.lay(), 2);
        threeInARow(x);
    }

    private static void threeInARow(LittleSums x) {
        Due.is("sum(0, 0, -1)", x.sum(0, 0, -1), 5);
        Due.is("cover(0, 2)", x.cover(0, 2), 3);
        Due.is("grid(0, 4)", x.grid(0, 4), 2);
        Due.is("alike(0, 1)", x.alike(0, 1), 1);
        Due.is("partner(0, 1, 2)", x.partner(0, 1, 2), 2);
        Due.is("swell(0, 1, 0)", x.swell(0, 1, 0), 5);
        Due.is("swell(0, 1, 1)", x.swell(0, 1, 1), 3);
        Due.is("swell(1, 0, 0)", x.swell(1, 0, 0), 5);
        Due.is("tight(0, 1)", x.tight(0, 1), 1);
        Due.is("room(0)", x.room(0), 0);
    }
}
