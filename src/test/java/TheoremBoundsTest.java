/** The sentences of the document that bound FLOOR, TIGHT, ROOM, SMALLEST and counts, one by one. */
public final class TheoremBoundsTest {
    private static final int BAD = -1, NO = -2, NONE = -4;
    private static final String ALL = Given.upTo(0, 40) + ";";

    private TheoremBoundsTest() {
    }

    public static void main(String[] args) {
        floors();
        floorRefused();
        tightOfTwoAndMore();
        tightOfOneStep();
        tightRefused();
        closeOfThreeAndMore();
        closeAtItsBound();
        roomsLeft();
        roomRefused();
        smallestOfOne();
        smallestAtTheEnds();
        smallestOfWrongSizes();
        smallestShortest();
        smallestOfTwoAndThree();
        smallestOneByOne();
        smallestRefused();
        countsAtTheEnds();
        countRefused();
        Due.end();
    }

    private static void floors() {
        Due.sentence("SUMS are a and b less 1 at least (FLOOR);");
        LittleSums x = Given.told("s0,40;s1,0,40;s2" + ALL);
        Due.is("floor(0, 0) of 1 and 1", x.floor(0, 0), 1);
        Due.is("floor(0, 1) of 1 and 2", x.floor(0, 1), 2);
        Due.is("floor(1, 1) of 2 and 2", x.floor(1, 1), 3);
        Due.is("floor(2, 0) of 41 and 1", x.floor(2, 0), 41);
        Due.is("floor(2, 2) of 41 and 41", x.floor(2, 2), 81);
        for (int a = 0; a <= 2; a++) {
            for (int b = 0; b <= 2; b++) {
                Due.holds("sum(" + a + ", " + b + ", -1) is that at least", x.sum(a, b, -1) >= x.floor(a, b));
            }
        }
    }

    private static void floorRefused() {
        Due.sentence("`int floor(int a, int b)`: FLOOR. BAD; NO: one has none.");
        LittleSums x = Given.told("s0,40;");
        Due.is("floor(0, 1) with none", x.floor(0, 1), NO);
        Due.is("floor(1, 0) of none", x.floor(1, 0), NO);
        Due.is("floor(1, 1) of none and none", x.floor(1, 1), NO);
        Due.is("floor(-1, 0)", x.floor(-1, 0), BAD);
        Due.is("floor(0, -1)", x.floor(0, -1), BAD);
        Due.is("floor(4, 1), BAD ahead of NO", x.floor(4, 1), BAD);
        Due.is("floor(1, 4), BAD ahead of NO", x.floor(1, 4), BAD);
    }

    private static void tightOfTwoAndMore() {
        Due.sentence("TIGHT: 1, if SUMS are the FLOOR and both SLOTS have 2 or more, else 0.");
        LittleSums x = Given.told("s0,7;s1,0,40;s2" + ALL + "s3,3,4;");
        Due.is("tight(0, 0) of 1 and 1", x.tight(0, 0), 0);
        Due.is("tight(0, 1) of 1 and 2", x.tight(0, 1), 0);
        Due.is("tight(1, 0) of 2 and 1", x.tight(1, 0), 0);
        Due.is("tight(0, 2) of 1 and 41", x.tight(0, 2), 0);
        Due.is("tight(2, 0) of 41 and 1", x.tight(2, 0), 0);
        Due.is("tight(1, 1) of 2 and 2", x.tight(1, 1), 1);
        Due.is("tight(2, 2) of 41 and 41", x.tight(2, 2), 1);
        Due.is("tight(2, 3) of 41 and 2", x.tight(2, 3), 1);
        Due.is("tight(3, 2) of 2 and 41", x.tight(3, 2), 1);
        Due.is("tight(1, 3), of d 40 and d 1", x.tight(1, 3), 0);
        x.put(0, 8);
        Due.is("tight(0, 3) of 2 behind put", x.tight(0, 3), 1);
    }

    private static void tightOfOneStep() {
        Due.sentence("just so many, with a and b 2 or more, only if both are PROGRESSIONS of one d (TIGHT:");
        LittleSums x = Given.told("s0,1,4,7;s1,2,5;s2,0,2,4;s3,0,3,9;");
        Due.is("tight(0, 1), both of d 3", x.tight(0, 1), 1);
        Due.is("tight(1, 0), both of d 3", x.tight(1, 0), 1);
        Due.is("tight(0, 2), of d 3 and d 2", x.tight(0, 2), 0);
        Due.is("tight(0, 3), which is no PROGRESSION", x.tight(0, 3), 0);
        Due.is("tight(3, 1), which is no PROGRESSION", x.tight(3, 1), 0);
        Due.is("tight(3, 3), which is no PROGRESSION", x.tight(3, 3), 0);
        x.put(3, 6);
        Due.is("tight(0, 3), which became one", x.tight(0, 3), 1);
    }

    private static void tightRefused() {
        LittleSums x = Given.told("s0,40;");
        Due.is("tight(0, 1) with none", x.tight(0, 1), NO);
        Due.is("tight(1, 0) of none", x.tight(1, 0), NO);
        Due.is("tight(1, 1) of none and none", x.tight(1, 1), NO);
        Due.is("tight(-1, 0)", x.tight(-1, 0), BAD);
        Due.is("tight(0, -1)", x.tight(0, -1), BAD);
        Due.is("tight(4, 1), BAD ahead of NO", x.tight(4, 1), BAD);
        Due.is("tight(1, 4), BAD ahead of NO", x.tight(1, 4), BAD);
    }

    private static void roomIs(String numbers, int sums, int room) {
        LittleSums x = Given.told("s2," + numbers + ";");
        Due.is("sum(2, 2, -1) of " + numbers, x.sum(2, 2, -1), sums);
        Due.is("room(2) of " + numbers, x.room(2), room);
    }

    private static void closeOfThreeAndMore() {
        Due.sentence("CLOSE is a SET A of a numbers (a 3 or more),");
        roomIs("7", 1, NONE);
        roomIs("7,8", 3, NONE);
        roomIs("0,40", 3, NONE);
        roomIs("7,8,9", 5, 0);
        roomIs("0,20,40", 5, 0);
        Due.is("room(1) of none", Given.told("").room(1), NONE);
    }

    private static void closeAtItsBound() {
        Due.sentence("if SUMS of A and A are no more than 3 a less 4:");
        roomIs("0,1,2", 3 * 3 - 4, 0);
        roomIs("0,1,3", 3 * 3 - 3, NONE);
        roomIs("0,1,2,4", 3 * 4 - 4, 0);
        roomIs("0,1,3,4", 3 * 4 - 3, NONE);
        roomIs("0,1,2,3,6", 3 * 5 - 4, 0);
        roomIs("0,1,3,4,6", 3 * 5 - 3, NONE);
        roomIs("0,1,2,3,4,8", 3 * 6 - 4, 0);
        roomIs("0,1,2,4,6,7", 3 * 6 - 3, NONE);
        roomIs("0,1,2,3,4,5,10", 3 * 7 - 4, 0);
        roomIs("0,1,2,3,6,7,9", 3 * 7 - 3, NONE);
        roomIs("0,1,10,11,20,21", 15, NONE);
    }

    private static void roomsLeft() {
        Due.sentence("COVER of it has no more than SUMS less a, and 1, then (ROOM: how many less it has;");
        roomIs("0,1,2,4,5", 11, 11 - 5 + 1 - 6);
        roomIs("0,1,2,3,5,6", 13, 13 - 6 + 1 - 7);
        roomIs("0,1,2,3,5,7,8", 17, 17 - 7 + 1 - 9);
        roomIs("0,1,2,3,4,6,8,10,11", 23, 23 - 9 + 1 - 12);
        // {0, 1, 2, 3, 5, 7, 8} made 5 times as much
        roomIs("0,5,10,15,25,35,40", 17, 17 - 7 + 1 - 9);
        roomIs(Given.upTo(0, 40).substring(1), 81, 0);
    }

    private static void roomRefused() {
        Due.sentence("ROOM of a SLOT. BAD; NONE: it is not CLOSE (or has fewer than 3).");
        LittleSums x = Given.told("s0,7,8;");
        Due.is("room(-1)", x.room(-1), BAD);
        Due.is("room(4)", x.room(4), BAD);
        Due.is("room(0) of 2", x.room(0), NONE);
        x.put(0, 9);
        Due.is("room(0) of 3 behind put", x.room(0), 0);
        x.put(0, 40);
        Due.is("room(0), not CLOSE behind put", x.room(0), NONE);
        Due.is("room(1) of none", x.room(1), NONE);
    }

    private static void smallestIs(int n, int l, int sums, int... sets) {
        LittleSums x = new LittleSums();
        String call = "smallest(" + n + ", " + l + ", ";
        Due.is(call + "-1)", x.smallest(n, l, -1), sums);
        Due.is(call + "-2)", x.smallest(n, l, -2), sets.length);
        for (int i = 0; i < sets.length; i++) {
            Due.is(call + i + ")", x.smallest(n, l, i), sets[i]);
        }
        Due.is(call + sets.length + ")", x.smallest(n, l, sets.length), NONE);
    }

    private static void smallestOfOne() {
        Due.sentence("(n 1: L 0)");
        smallestIs(1, 0, 1, 1);
        LittleSums x = new LittleSums();
        for (int l = -1; l <= 15; l++) {
            for (int what = -2; what <= 1 && l != 0; what++) {
                Due.is("smallest(1, " + l + ", " + what + ")", x.smallest(1, l, what), BAD);
            }
        }
    }

    private static void smallestAtTheEnds() {
        Due.sentence("SMALLEST by n and L (n 1 to 8, L n - 1 to 14):");
        LittleSums x = new LittleSums();
        for (int n = 2; n <= 8; n++) {
            for (int what = -2; what <= 0; what++) {
                String call = "smallest(" + n + ", ";
                Due.is(call + (n - 2) + ", " + what + ")", x.smallest(n, n - 2, what), BAD);
                Due.holds(call + (n - 1) + ", " + what + ") is none", x.smallest(n, n - 1, what) > 0);
                Due.holds(call + "14, " + what + ") is none", x.smallest(n, 14, what) > 0);
                Due.is(call + "15, " + what + ")", x.smallest(n, 15, what), BAD);
            }
        }
    }

    private static void smallestOfWrongSizes() {
        LittleSums x = new LittleSums();
        int[] sizes = {Integer.MIN_VALUE, -1, 0, 9, 10, 15, Integer.MAX_VALUE};
        for (int n : sizes) {
            for (int l = -1; l <= 15; l++) {
                Due.is("smallest(" + n + ", " + l + ", -1)", x.smallest(n, l, -1), BAD);
            }
        }
        for (int n = 1; n <= 8; n++) {
            Due.is("smallest(" + n + ", MIN, -1)", x.smallest(n, Integer.MIN_VALUE, -1), BAD);
            Due.is("smallest(" + n + ", MAX, -1)", x.smallest(n, Integer.MAX_VALUE, -1), BAD);
        }
    }

    /** All of 0 to n - 1 for L n - 1, each second one for L twice as much: PROGRESSIONS are the FLOOR. */
    private static void smallestShortest() {
        for (int n = 2; n <= 8; n++) {
            smallestIs(n, n - 1, 2 * n - 1, (1 << n) - 1);
            int each = 0;
            for (int i = 0; i < n; i++) {
                each |= 1 << 2 * i;
            }
            smallestIs(n, 2 * n - 2, 2 * n - 1, each);
        }
    }

    private static void smallestOfTwoAndThree() {
        Due.sentence("of all SETS of n numbers with 0 and L and others between");
        for (int l = 1; l <= 14; l++) {
            smallestIs(2, l, 3, 1 | 1 << l);
        }
        for (int l = 2; l <= 14; l += 2) {
            smallestIs(3, l, 5, 1 | 1 << l / 2 | 1 << l);
        }
        for (int l = 3; l <= 13; l += 2) {
            int[] sets = new int[l - 1];
            for (int i = 0; i < sets.length; i++) {
                sets[i] = 1 | 2 << i | 1 << l;
            }
            smallestIs(3, l, 6, sets);
        }
    }

    private static void smallestOneByOne() {
        Due.sentence("those with the fewest SUMS of itself and itself: how many SUMS; how many such SETS; the i-th of these, as bits, the least bits first.");
        for (int n = 2; n <= 8; n++) {
            for (int l = n - 1; l <= 14; l++) {
                LittleSums x = new LittleSums();
                String call = "smallest(" + n + ", " + l + ", ";
                int sums = x.smallest(n, l, -1);
                int many = x.smallest(n, l, -2);
                int last = 0;
                for (int i = 0; i < many && i < 400; i++) {
                    int set = x.smallest(n, l, i);
                    Due.holds(call + i + ") is behind the one ahead", set > last);
                    Due.is(call + i + ") has so many", Integer.bitCount(set), n);
                    Due.is(call + i + ") has 0 and L", set & (1 | 1 << l), 1 | 1 << l);
                    Due.holds(call + i + ") has none above L", set < 2 << l);
                    Due.is(call + i + ") has so many SUMS", sumsOf(set), sums);
                    last = set;
                }
                Due.is(call + many + ")", x.smallest(n, l, many), NONE);
                Due.is(call + "MAX)", x.smallest(n, l, Integer.MAX_VALUE), NONE);
            }
        }
    }

    private static int sumsOf(int set) {
        boolean[] sums = new boolean[64];
        int many = 0;
        for (int a = 0; a < 31; a++) {
            for (int b = 0; b < 31; b++) {
                if ((set >>> a & set >>> b & 1) == 1 && !sums[a + b]) {
                    sums[a + b] = true;
                    many++;
                }
            }
        }
        return many;
    }

    private static void smallestRefused() {
        Due.sentence("SUMS (what = -1), how many SETS (what = -2), the i-th, as bits (what = i). BAD; NONE: not so many.");
        LittleSums x = new LittleSums();
        Due.is("smallest(3, 5, -3)", x.smallest(3, 5, -3), BAD);
        Due.is("smallest(3, 5, MIN)", x.smallest(3, 5, Integer.MIN_VALUE), BAD);
        Due.is("smallest(3, 5, -2)", x.smallest(3, 5, -2), 4);
        Due.is("smallest(3, 5, 3)", x.smallest(3, 5, 3), 0b110001);
        Due.is("smallest(3, 5, 4)", x.smallest(3, 5, 4), NONE);
        Due.is("smallest(3, 5, MAX)", x.smallest(3, 5, Integer.MAX_VALUE), NONE);
        Due.is("smallest(3, 15, 99), BAD ahead of NONE", x.smallest(3, 15, 99), BAD);
        Due.is("smallest(9, 14, 99), BAD ahead of NONE", x.smallest(9, 14, 99), BAD);
        Due.is("smallest(3, 5, -1) behind BAD", x.smallest(3, 5, -1), 6);
        Due.is("smallest(3, 6, -1) behind another L", x.smallest(3, 6, -1), 5);
        Due.is("smallest(4, 6, -1) behind another n", x.smallest(4, 6, -1), 7);
        Due.is("smallest(3, 5, 0) behind others", x.smallest(3, 5, 0), 0b100011);
    }

    private static void countsAtTheEnds() {
        Due.sentence("How many: 0 to 3 numbers of a SLOT, 4 changes that can be UNDONE, 5 letters of THE TEXT, 6 SLOTS that have a number. BAD.");
        LittleSums x = Given.told("");
        for (int what = 0; what <= 6; what++) {
            Due.is("count(" + what + ") with nothing", x.count(what), 0);
        }
        x = Given.told("s0,1;s1,1,2;s2,1,2,3;s3" + ALL);
        int[] sizes = {1, 2, 3, 41};
        for (int k = 0; k <= 3; k++) {
            Due.is("count(" + k + ")", x.count(k), sizes[k]);
        }
        Due.is("count(6) of 4", x.count(6), 4);
        x.take(0, 1);
        Due.is("count(6) of 3", x.count(6), 3);
        Due.is("count(4) of 1", x.count(4), 1);
        for (int i = 0; i < 9; i++) {
            x.put(0, i);
        }
        Due.is("count(4) of 10", x.count(4), 6);
        x.undo();
        Due.is("count(4) behind undo()", x.count(4), 5);
        for (int length = x.count(5); length < 200; length++) {
            x.write('x');
        }
        Due.is("count(5) of 200", x.count(5), 200);
        x.write('x');
        Due.is("count(5) behind FULL", x.count(5), 200);
    }

    private static void countRefused() {
        LittleSums x = new LittleSums();
        int[] far = {Integer.MIN_VALUE, -2, -1, 7, 8, Integer.MAX_VALUE};
        for (int what : far) {
            Due.is("count(" + what + ")", x.count(what), BAD);
        }
    }
}
