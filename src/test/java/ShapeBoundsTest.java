import java.util.Arrays;

/** The sentences of the document that bound COVER, GRID, ALIKE and SWELLING, one by one. */
public final class ShapeBoundsTest {
    private static final int BAD = -1, NO = -2, NONE = -4;
    private static final String ALL = Given.upTo(0, 40) + ";";

    private ShapeBoundsTest() {
    }

    public static void main(String[] args) {
        coverOfOne();
        coverOfMore();
        coverRefused();
        gridOfTwoAndMore();
        gridFromItsLeast();
        gridTellsEachOnce();
        gridOfLeastArea();
        gridOfLeastSteps();
        gridUpToEighty();
        gridOfItsOwnNumbers();
        gridRefused();
        alikeOfOneSize();
        alikeOfSeven();
        alikeWithLikeOnes();
        alikeBothWays();
        alikeOfOthers();
        leastPartners();
        partnerRefused();
        swellsInLowestTerms();
        swellsLeast();
        swellsWithMostNumbers();
        swellingPartAsBits();
        swellingOfTwelve();
        swellingOfOthers();
        swellingRefused();
        Due.end();
    }

    private static void coverIs(String numbers, int b, int d, int n) {
        LittleSums x = Given.told("s2," + numbers + ";");
        Due.is("cover(2, 0) of " + numbers, x.cover(2, 0), b);
        Due.is("cover(2, 1) of " + numbers, x.cover(2, 1), d);
        Due.is("cover(2, 2) of " + numbers, x.cover(2, 2), n);
    }

    private static void coverOfOne() {
        Due.sentence("with n 1, d is 1;");
        for (int v = 0; v <= 40; v++) {
            coverIs("" + v, v, 1, 1);
        }
    }

    private static void coverOfMore() {
        Due.sentence("of PROGRESSIONS that have all its numbers, that of the least n;");
        coverIs("0,40", 0, 40, 2);
        coverIs("39,40", 39, 1, 2);
        coverIs("0,1", 0, 1, 2);
        coverIs("0,20,40", 0, 20, 3);
        coverIs("0,10,40", 0, 10, 5);
        coverIs("0,39,40", 0, 1, 41);
        coverIs("4,10,14", 4, 2, 6);
        coverIs("5,11,20", 5, 3, 6);
        coverIs("1,13,31", 1, 6, 6);
        coverIs(Given.upTo(0, 40).substring(1), 0, 1, 41);
    }

    private static void coverRefused() {
        Due.sentence("COVER of a SLOT: b (what = 0), d (1), n (2). BAD; NO: it has none.");
        LittleSums x = Given.told("s0,7;");
        Due.is("cover(0, -1)", x.cover(0, -1), BAD);
        Due.is("cover(0, 3)", x.cover(0, 3), BAD);
        Due.is("cover(-1, 0)", x.cover(-1, 0), BAD);
        Due.is("cover(4, 0)", x.cover(4, 0), BAD);
        for (int what = 0; what <= 2; what++) {
            Due.is("cover(1, " + what + ") of none", x.cover(1, what), NO);
        }
        Due.is("cover(1, -1) of none", x.cover(1, -1), BAD);
        Due.is("cover(1, 3) of none", x.cover(1, 3), BAD);
        x.take(0, 7);
        Due.is("cover(0, 0) behind the only one taken", x.cover(0, 0), NO);
    }

    private static void gridIs(String numbers, int... best) {
        LittleSums x = Given.told("s2," + numbers + ";");
        for (int what = 0; what <= 4; what++) {
            Due.is("grid(2, " + what + ") of " + numbers, x.grid(2, what), best[what]);
        }
    }

    private static void gridOfTwoAndMore() {
        Due.sentence("with d less than e, m and n 2 or more, that have all its numbers");
        for (int v = 0; v <= 40; v++) {
            gridIs("" + v, v, 1, 2, 2, 2);
        }
        gridIs("39,40", 39, 1, 2, 2, 2);
        gridIs("38,40", 38, 1, 2, 2, 2);
        gridIs("0,40", 0, 1, 39, 2, 2);
        gridIs("0,20,40", 0, 20, 40, 2, 2);
        gridIs("0,1,2,3", 0, 1, 2, 2, 2);
        gridIs("0,1,2,3,4", 0, 1, 2, 2, 3);
        gridIs(Given.upTo(0, 40).substring(1), 0, 1, 2, 2, 21);
        gridIs(Given.upTo(1, 40).substring(1), 1, 1, 2, 2, 20);
    }

    private static void gridFromItsLeast() {
        Due.sentence("b its least number;");
        // from 7 and from 1 there is one of 2 times 2, too
        gridIs("8,10", 8, 1, 2, 2, 2);
        gridIs("2,4", 2, 1, 2, 2, 2);
        gridIs("2,3", 2, 1, 2, 2, 2);
    }

    private static void gridTellsEachOnce() {
        Due.sentence("no two (i, j) of which tell one number;");
        // d 2, e 3, m 4, n 3 has all of them but tells b and 6 twice
        gridIs("2,4,5,6,8,14", 2, 1, 2, 2, 7);
        gridIs("4,7,8,10,12,16", 4, 3, 4, 3, 4);
        gridIs("1,3,4,6,7,9,10,11,13", 1, 1, 2, 2, 7);
    }

    private static void gridOfLeastArea() {
        Due.sentence("BEST GRID: that of the least m times n, of several that of the least d, then e, then m.");
        gridIs("0,1,10,11,20,21", 0, 1, 10, 2, 3);
        gridIs("0,3,6,9,12", 0, 3, 6, 2, 3);
        gridIs("5,8,11,25,28,31", 5, 3, 20, 3, 2);
    }

    private static void gridOfLeastSteps() {
        // of the same area there is one of d 3, e 4
        gridIs("3,6", 3, 1, 2, 2, 2);
        // of the same area and d there is one of every e up to 77
        gridIs("2,3", 2, 1, 2, 2, 2);
        gridIs("0,4", 0, 1, 3, 2, 2);
        // of the same area, d and e there is one of m 4, n 2
        gridIs("0,3,5,9", 0, 2, 3, 2, 4);
        gridIs("1,3,4,6,10", 1, 2, 3, 2, 4);
        // of the same area, d and e there is one of m 6, n 2
        gridIs("5,7,8,9,11,18", 5, 2, 3, 3, 4);
    }

    /** No BEST GRID goes beyond 68 (NOTES.md says why), so these are the farthest ones that can be. */
    private static void gridUpToEighty() {
        Due.sentence("GRIDS with b and (m - 1) d and (n - 1) e together no more than 80,");
        gridIs("0,7,8,14,15,16,21,22,23,24,28,29,30,31,32,36,37,38,39,40", 0, 7, 8, 5, 6);
        gridIs("0,10,28,31,34,38,40", 0, 7, 10, 5, 5);
        gridIs("3,10,12,17,19,21,24,26,28,30,31,33,35,37,39,40", 3, 7, 9, 5, 5);
        gridIs("26,33,40", 26, 7, 14, 2, 2);
    }

    /**
     * The numbers up to 40 of every d, e, m, n that could be the best. Those that tell a number twice
     * are no GRIDS, but a search that took them for such would find them here.
     */
    private static void gridOfItsOwnNumbers() {
        for (int b = 0; b <= 40; b += 10) {
            for (int d = 1; d < 40 - b; d++) {
                for (int e = d + 1; e <= 40 - b; e++) {
                    for (int m = 2; (m - 1) * d <= 40 - b; m++) {
                        for (int n = 2; (n - 1) * e <= 40 - b; n++) {
                            gridAtLeastAsGood(b, d, e, m, n);
                        }
                    }
                }
            }
        }
    }

    private static void gridAtLeastAsGood(int... given) {
        long numbers = numbersOf(given);
        LittleSums x = new LittleSums();
        x.lay();
        for (int v = 0; v <= 40; v++) {
            if ((numbers >>> v & 1L) != 0L) {
                x.put(0, v);
            }
        }
        int[] best = new int[5];
        for (int what = 0; what <= 4; what++) {
            best[what] = x.grid(0, what);
        }
        String call = "grid(0, ..) of the numbers of " + Arrays.toString(given) + ", " + Arrays.toString(best) + ",";
        Due.is(call + " starts", best[0], given[0]);
        Due.holds(call + " is in order", best[1] >= 1 && best[1] < best[2] && best[3] >= 2 && best[4] >= 2);
        Due.is(call + " has them all", numbersOf(best) & numbers, numbers);
        Due.holds(call + " is a GRID", isGrid(best));
        Due.holds(call + " is as good", !isGrid(given) || rank(best) <= rank(given));
    }

    private static long numbersOf(int... grid) {
        long numbers = 0L;
        for (int i = 0; i < grid[3]; i++) {
            for (int j = 0; j < grid[4]; j++) {
                int v = grid[0] + i * grid[1] + j * grid[2];
                numbers |= v <= 40 ? 1L << v : 0L;
            }
        }
        return numbers;
    }

    private static boolean isGrid(int... grid) {
        boolean[] told = new boolean[81];
        for (int i = 0; i < grid[3]; i++) {
            for (int j = 0; j < grid[4]; j++) {
                int v = grid[0] + i * grid[1] + j * grid[2];
                if (v > 80 || told[v]) {
                    return false;
                }
                told[v] = true;
            }
        }
        return true;
    }

    private static long rank(int... grid) {
        return ((grid[3] * grid[4] * 100L + grid[1]) * 100L + grid[2]) * 100L + grid[3];
    }

    private static void gridRefused() {
        Due.sentence("BEST GRID of a SLOT: b (what = 0), d (1), e (2), m (3), n (4). BAD; NO: it has none; NONE: there is no GRID.");
        LittleSums x = Given.told("s0,7;");
        Due.is("grid(0, -1)", x.grid(0, -1), BAD);
        Due.is("grid(0, 5)", x.grid(0, 5), BAD);
        Due.is("grid(-1, 0)", x.grid(-1, 0), BAD);
        Due.is("grid(4, 0)", x.grid(4, 0), BAD);
        for (int what = 0; what <= 4; what++) {
            Due.is("grid(1, " + what + ") of none", x.grid(1, what), NO);
        }
        Due.is("grid(1, -1) of none", x.grid(1, -1), BAD);
        Due.is("grid(1, 5) of none", x.grid(1, 5), BAD);
        Due.is("grid(0, 0)", x.grid(0, 0), 7);
        x.take(0, 7);
        Due.is("grid(0, 0) behind the only one taken", x.grid(0, 0), NO);
    }

    private static void alikeOfOneSize() {
        Due.sentence("ALIKE are two SETS of one size, not none,");
        LittleSums x = Given.told("s0,7;s1,40;s2,0,40;");
        Due.is("alike(0, 1) of 1", x.alike(0, 1), 1);
        Due.is("partner(0, 1, 0) of 1", x.partner(0, 1, 0), 40);
        Due.is("alike(2, 2) of 2", x.alike(2, 2), 1);
        Due.is("alike(0, 2) of 1 and 2", x.alike(0, 2), NO);
        Due.is("alike(2, 0) of 2 and 1", x.alike(2, 0), NO);
        Due.is("alike(0, 3) with none", x.alike(0, 3), NO);
        Due.is("alike(3, 0) of none", x.alike(3, 0), NO);
        Due.is("alike(3, 3) of none and none", x.alike(3, 3), NO);
        x = Given.told("s0,0,40;s1,3,4;");
        Due.is("alike(0, 1) of any 2", x.alike(0, 1), 1);
    }

    private static void alikeOfSeven() {
        Due.sentence("BAD; NO: they have unlike many, none, or more than 7.");
        for (int size = 1; size <= 7; size++) {
            LittleSums x = Given.told("s0" + Given.upTo(0, size - 1) + ";");
            x.move(1, 0, 5, 3);
            Due.is("alike(0, 1) of " + size, x.alike(0, 1), 1);
            for (int i = 0; i < size; i++) {
                Due.is("partner(0, 1, " + i + ") of " + size, x.partner(0, 1, i), 3 + 5 * i);
            }
            Due.is("partner(0, 1, " + size + ")", x.partner(0, 1, size), NONE);
        }
        LittleSums x = Given.told("s0,0,1,2,3,4,5,6,7;s1,0,1,2,3,4,5,6;s2" + ALL);
        Due.is("alike(0, 0) of 8", x.alike(0, 0), NO);
        Due.is("alike(0, 1) of 8 and 7", x.alike(0, 1), NO);
        Due.is("alike(1, 0) of 7 and 8", x.alike(1, 0), NO);
        Due.is("alike(1, 1) of 7", x.alike(1, 1), 1);
        Due.is("alike(2, 2) of 41", x.alike(2, 2), NO);
        Due.is("alike(1, 2) of 7 and 41", x.alike(1, 2), NO);
        Due.is("partner(0, 0, 0) of 8", x.partner(0, 0, 0), NO);
        Due.is("alike(-1, 0)", x.alike(-1, 0), BAD);
        Due.is("alike(0, -1)", x.alike(0, -1), BAD);
        Due.is("alike(4, 3), BAD ahead of NO", x.alike(4, 3), BAD);
        Due.is("alike(3, 4), BAD ahead of NO", x.alike(3, 4), BAD);
    }

    private static void alikeWithLikeOnes() {
        Due.sentence("so that for a, b, c, d of the first (like ones, too)");
        // 0 and 2 together are 1 and 1 together, and of the second no two pairs have one sum
        LittleSums x = Given.told("s0,0,1,2;s1,0,1,3;");
        Due.is("alike(0, 1)", x.alike(0, 1), 0);
        Due.is("alike(1, 0)", x.alike(1, 0), 0);
        Due.is("partner(0, 1, 0)", x.partner(0, 1, 0), NONE);
        Due.is("partner(1, 0, 0)", x.partner(1, 0, 0), NONE);
    }

    private static void alikeBothWays() {
        Due.sentence("a and b together are c and d together just if so for their partners.");
        // 0 and 4 together are 1 and 3 together, and of the second no two pairs have one sum
        LittleSums x = Given.told("s0,0,1,3,4;s1,0,1,3,9;s2,10,12,16,18;s3,0,1,2,3;");
        Due.is("alike(0, 1)", x.alike(0, 1), 0);
        Due.is("alike(1, 0)", x.alike(1, 0), 0);
        Due.is("alike(0, 2)", x.alike(0, 2), 1);
        Due.is("alike(2, 0)", x.alike(2, 0), 1);
        Due.is("alike(0, 3), which has more such", x.alike(0, 3), 0);
        Due.is("alike(3, 0), which has fewer such", x.alike(3, 0), 0);
    }

    private static void partnersAre(String text, int... partners) {
        LittleSums x = Given.told(text);
        for (int i = 0; i < partners.length; i++) {
            Due.is("partner(0, 1, " + i + ") of " + text, x.partner(0, 1, i), partners[i]);
        }
        Due.is("partner(0, 1, ..) behind the last of " + text, x.partner(0, 1, partners.length), NONE);
    }

    private static void leastPartners() {
        Due.sentence("THE PAIRING: that in which the least number of the first has the least partner, then the next, and so on.");
        // both the order and its reverse pair them
        partnersAre("s0,0,1,2,3;s1,5,7,9,11;", 5, 7, 9, 11);
        // all orders pair them
        partnersAre("s0,0,1,3;s1,8,11,12;", 8, 11, 12);
        partnersAre("s0,0,1,3,9;s1,0,8,11,12;", 0, 8, 11, 12);
        // 0, 1, 2 go with 8, 9, 10 or their reverse, as only these have 8 and 10 together being 9 and 9
        partnersAre("s0,0,1,2,10;s1,0,8,9,10;", 8, 9, 10, 0);
        // only v with 7 less v pairs them
        partnersAre("s0,0,1,2,3,4,5,7;s1,0,2,3,4,5,6,7;", 7, 6, 5, 4, 3, 2, 0);
    }

    /** One of the two SLOTS stays the same from question to question. */
    private static void alikeOfOthers() {
        LittleSums x = Given.told("s0,0,1,2;s1,5,7,9;s2,0,1,3;s3,4,5,7;");
        Due.is("alike(0, 1)", x.alike(0, 1), 1);
        Due.is("alike(2, 1)", x.alike(2, 1), 0);
        Due.is("alike(2, 3)", x.alike(2, 3), 1);
        Due.is("alike(0, 3)", x.alike(0, 3), 0);
        Due.is("alike(0, 1)", x.alike(0, 1), 1);
        Due.is("partner(0, 1, 2)", x.partner(0, 1, 2), 9);
        Due.is("partner(1, 0, 2)", x.partner(1, 0, 2), 2);
        Due.is("partner(1, 1, 2)", x.partner(1, 1, 2), 9);
        Due.is("partner(3, 1, 2)", x.partner(3, 1, 2), NONE);
        Due.is("partner(3, 2, 2)", x.partner(3, 2, 2), 3);
    }

    private static void partnerRefused() {
        Due.sentence("BAD (i below 0); NO likewise; NONE: not so many, or they are not ALIKE.");
        LittleSums x = Given.told("s0,0,1,2;s1,0,1,3;s2,5;");
        Due.is("partner(0, 0, -1)", x.partner(0, 0, -1), BAD);
        Due.is("partner(0, 0, MIN)", x.partner(0, 0, Integer.MIN_VALUE), BAD);
        Due.is("partner(0, 0, 2)", x.partner(0, 0, 2), 2);
        Due.is("partner(0, 0, 3)", x.partner(0, 0, 3), NONE);
        Due.is("partner(0, 0, MAX)", x.partner(0, 0, Integer.MAX_VALUE), NONE);
        Due.is("partner(0, 1, 0), not ALIKE", x.partner(0, 1, 0), NONE);
        Due.is("partner(0, 1, 3), not ALIKE", x.partner(0, 1, 3), NONE);
        Due.is("partner(0, 1, -1), BAD ahead of NONE", x.partner(0, 1, -1), BAD);
        Due.is("partner(0, 2, 0) of unlike many", x.partner(0, 2, 0), NO);
        Due.is("partner(0, 2, 3), NO ahead of NONE", x.partner(0, 2, 3), NO);
        Due.is("partner(0, 2, -1), BAD ahead of NO", x.partner(0, 2, -1), BAD);
        Due.is("partner(3, 3, 0) of none", x.partner(3, 3, 0), NO);
        Due.is("partner(0, 3, 0) with none", x.partner(0, 3, 0), NO);
        Due.is("partner(3, 3, -1) of none", x.partner(3, 3, -1), BAD);
        Due.is("partner(-1, 0, 0)", x.partner(-1, 0, 0), BAD);
        Due.is("partner(0, 4, 0)", x.partner(0, 4, 0), BAD);
        Due.is("partner(4, 3, 0), BAD ahead of NO", x.partner(4, 3, 0), BAD);
    }

    /** LEAST SWELLING of SLOT 0 by SLOT 1, and the part that shrink makes of it. */
    private static void swellIs(String text, int sums, int numbers, int... part) {
        LittleSums x = Given.told(text);
        int bits = 0;
        for (int i = 0; i < x.count(0); i++) {
            for (int v : part) {
                bits |= x.member(0, i) == v ? 1 << i : 0;
            }
        }
        Due.is("swell(0, 1, 0) of " + text, x.swell(0, 1, 0), sums);
        Due.is("swell(0, 1, 1) of " + text, x.swell(0, 1, 1), numbers);
        Due.is("swell(0, 1, 2) of " + text, x.swell(0, 1, 2), bits);
        Due.is("shrink(3, 0, 1) of " + text, x.shrink(3, 0, 1), part.length);
        Given.slotIs("shrunk of " + text, x, 3, part);
    }

    private static void swellsInLowestTerms() {
        Due.sentence("SWELLING of a part X (not none) of A by B: how many SUMS of X and B there are, by how many X has, in lowest terms.");
        swellIs("s0,7;s1,7;", 1, 1, 7);
        swellIs("s0,40;s1,0,40;", 2, 1, 40);
        swellIs("s0,3,20,40;s1,0,1;", 2, 1, 3, 20, 40);
        swellIs("s0,0,1,10,11;s1,0,1;", 3, 2, 0, 1, 10, 11);
        swellIs("s0,0,1,2,3;s1,9;", 1, 1, 0, 1, 2, 3);
        swellIs("s0,0;s1" + ALL, 41, 1, 0);
        swellIs("s0,0,40;s1" + ALL, 81, 2, 0, 40);
    }

    private static void swellsLeast() {
        Due.sentence("LEAST SWELLING: the least of all parts,");
        swellIs("s0,0,1,2,20,30;s1,0,1;", 4, 3, 0, 1, 2);
        swellIs("s0,0,10,20,21,22;s1,0,1;", 4, 3, 20, 21, 22);
        swellIs("s0,0,38,39,40;s1,38,39,40;", 5, 3, 38, 39, 40);
        // 4 SUMS of 3 are less than 7 SUMS of 5, and 5 of 4 than 4 of 3
        swellIs("s0,0,1,2,20,21;s1,0,1;", 4, 3, 0, 1, 2);
        swellIs("s0,0,1,2,20,21,22,23;s1,0,1;", 5, 4, 20, 21, 22, 23);
    }

    private static void swellsWithMostNumbers() {
        Due.sentence("of several that of the most numbers,");
        swellIs("s0,0,1,2,30,31,32;s1,0,1;", 4, 3, 0, 1, 2, 30, 31, 32);
        swellIs("s0,0,1,2,9,30,31,32;s1,0,1;", 4, 3, 0, 1, 2, 30, 31, 32);
        swellIs("s0,0,10,20,30;s1,0,1;", 2, 1, 0, 10, 20, 30);
        swellIs("s0,0,1,5,6,20,30,31;s1,0,1;", 3, 2, 0, 1, 5, 6, 30, 31);
    }

    private static void swellingPartAsBits() {
        Due.sentence("the part as bits of the numbers of SLOT a, the least first (2).");
        LittleSums x = Given.told("s0,5,20,21,22;s1,0,1;s2,20,21,22,40;");
        Due.is("swell(0, 1, 2), all but the least", x.swell(0, 1, 2), 0b1110);
        Due.is("swell(2, 1, 2), all but the greatest", x.swell(2, 1, 2), 0b0111);
    }

    private static void swellingOfTwelve() {
        Due.sentence("(A has at most 12 numbers here.)");
        LittleSums x = Given.told("s0" + Given.upTo(29, 40) + ";s1,0,1;s2" + Given.upTo(0, 12) + ";s3" + ALL);
        Due.is("swell(0, 1, 0) of 12", x.swell(0, 1, 0), 13);
        Due.is("swell(0, 1, 1) of 12", x.swell(0, 1, 1), 12);
        Due.is("swell(0, 1, 2) of 12", x.swell(0, 1, 2), 4095);
        for (int what = 0; what <= 2; what++) {
            Due.is("swell(2, 1, " + what + ") of 13", x.swell(2, 1, what), NO);
            Due.is("swell(3, 1, " + what + ") of 41", x.swell(3, 1, what), NO);
        }
        Due.is("swell(1, 2, 0) by 13", x.swell(1, 2, 0), 7);
        Due.is("swell(0, 3, 0) of 12 by 41, 52 of 12", x.swell(0, 3, 0), 13);
        Due.is("swell(0, 3, 1) of 12 by 41", x.swell(0, 3, 1), 3);
        x.take(2, 0);
        Due.is("swell(2, 1, 2) of 12 behind take", x.swell(2, 1, 2), 4095);
        x.put(2, 0);
        Due.is("swell(2, 1, 2) of 13 behind put", x.swell(2, 1, 2), NO);
    }

    /** One of the two SLOTS stays the same from question to question; then fewer and lower numbers. */
    private static void swellingOfOthers() {
        LittleSums x = Given.told("s0" + Given.upTo(29, 40) + ";s1,39,40;s2,3,4;s3,30,40;");
        Due.is("swell(0, 1, 0), 68 to 80 of 12", x.swell(0, 1, 0), 13);
        Due.is("swell(2, 1, 0), 42 to 44 of 2", x.swell(2, 1, 0), 3);
        Due.is("swell(2, 1, 1)", x.swell(2, 1, 1), 2);
        Due.is("swell(2, 3, 0), 4 of 2", x.swell(2, 3, 0), 2);
        Due.is("swell(0, 3, 0), 59, 60, 69, 70, 79 and 80 of 29, 30, 39 and 40", x.swell(0, 3, 0), 3);
        Due.is("swell(0, 3, 1)", x.swell(0, 3, 1), 2);
        Due.is("swell(0, 3, 2)", x.swell(0, 3, 2), 0b110000000011);
        Due.is("swell(3, 3, 0), 60, 70 and 80 of 2", x.swell(3, 3, 0), 3);
        Due.is("swell(3, 2, 0), 4 of 2", x.swell(3, 2, 0), 2);
        Due.is("swell(0, 1, 2)", x.swell(0, 1, 2), 4095);
        Due.is("swell(1, 2, 2)", x.swell(1, 2, 2), 3);
        Due.is("swell(1, 2, 0), 42 to 44 of 2", x.swell(1, 2, 0), 3);
    }

    private static void swellingRefused() {
        Due.sentence("LEAST SWELLING of SLOT a by SLOT b: SUMS (what = 0), numbers (1), in lowest terms,");
        LittleSums x = Given.told("s0,5;s1" + Given.upTo(0, 12) + ";");
        Due.is("swell(0, 2, 0) by none", x.swell(0, 2, 0), NO);
        Due.is("swell(2, 0, 0) of none", x.swell(2, 0, 0), NO);
        Due.is("swell(2, 3, 0) of none by none", x.swell(2, 3, 0), NO);
        Due.is("swell(0, 0, -1)", x.swell(0, 0, -1), BAD);
        Due.is("swell(0, 0, 3)", x.swell(0, 0, 3), BAD);
        Due.is("swell(-1, 0, 0)", x.swell(-1, 0, 0), BAD);
        Due.is("swell(0, 4, 0)", x.swell(0, 4, 0), BAD);
        Due.is("swell(2, 0, 3), BAD ahead of NO", x.swell(2, 0, 3), BAD);
        Due.is("swell(1, 0, -1), BAD ahead of NO", x.swell(1, 0, -1), BAD);
        Due.is("swell(2, 4, 0), BAD ahead of NO", x.swell(2, 4, 0), BAD);
    }
}
