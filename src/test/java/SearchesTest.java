import java.util.List;
import java.util.Random;

/** What is sought among many: more sets than the runs of RandomRunsTest come by. */
public final class SearchesTest {
    private static final Random RANDOM = new Random(41);

    private SearchesTest() {
    }

    public static void main(String[] args) {
        allSmallest();
        for (int i = 0; i < 150; i++) {
            grid();
        }
        for (int i = 0; i < 150; i++) {
            swelling(1 + i % 12);
        }
        for (int i = 0; i < 600; i++) {
            pairing(1 + i % 7);
        }
        Due.end();
    }

    private static void allSmallest() {
        LittleSums x = new LittleSums();
        for (int n = 1; n <= 8; n++) {
            for (int l = n - 1; l <= (n == 1 ? 0 : 14); l++) {
                String call = "smallest(" + n + ", " + l + ", ";
                List<Integer> sets = PlainSums.smallestSets(n, l);
                Due.is(call + "-2)", x.smallest(n, l, -2), sets.size());
                for (int i = 0; i < sets.size(); i++) {
                    Due.is(call + i + ")", x.smallest(n, l, i), sets.get(i));
                }
                Due.is(call + sets.size() + ")", x.smallest(n, l, sets.size()), LittleSums.NONE);
                Due.is(call + "-1)", x.smallest(n, l, -1), new PlainSums().smallest(n, l, -1));
            }
        }
    }

    /** Takes all numbers out of a SLOT and puts these in. */
    private static String fill(LittleSums x, PlainSums y, int k, List<Integer> numbers) {
        for (int v = 0; v <= 40; v++) {
            x.take(k, v);
            y.take(k, v);
        }
        for (int v : numbers) {
            x.put(k, v);
            y.put(k, v);
        }
        return numbers.toString();
    }

    private static List<Integer> numbers(int size, int most) {
        return RANDOM.ints(0, most + 1).distinct().limit(size).sorted().boxed().toList();
    }

    private static void grid() {
        LittleSums x = new LittleSums();
        PlainSums y = new PlainSums();
        int most = 5 + RANDOM.nextInt(36);
        String set = fill(x, y, 0, numbers(1 + RANDOM.nextInt(Math.min(most, 14)), most));
        for (int what = 0; what < 5; what++) {
            Due.is("grid(0, " + what + ") of " + set, x.grid(0, what), y.grid(0, what));
        }
    }

    private static void swelling(int size) {
        LittleSums x = new LittleSums();
        PlainSums y = new PlainSums();
        String sets = fill(x, y, 0, numbers(size, 12 + RANDOM.nextInt(29)));
        sets += " by " + fill(x, y, 1, numbers(1 + RANDOM.nextInt(8), 8 + RANDOM.nextInt(33)));
        for (int what = 0; what < 3; what++) {
            Due.is("swell(0, 1, " + what + ") of " + sets, x.swell(0, 1, what), y.swell(0, 1, what));
        }
        Due.is("shrink(2, 0, 1) of " + sets, x.shrink(2, 0, 1), y.shrink(2, 0, 1));
        for (int i = 0; i < y.count(2); i++) {
            Due.is("member(2, " + i + ") behind shrink of " + sets, x.member(2, i), y.member(2, i));
        }
    }

    /** Close numbers have many sums in common, which makes pairings seldom but not rare. */
    private static void pairing(int size) {
        LittleSums x = new LittleSums();
        PlainSums y = new PlainSums();
        List<Integer> first = numbers(size, size + RANDOM.nextInt(41 - size));
        String sets = fill(x, y, 0, first);
        sets += " and " + fill(x, y, 1, RANDOM.nextInt(3) == 0 ? mirrored(first) : numbers(size, size + 2));
        Due.is("alike(0, 1) of " + sets, x.alike(0, 1), y.alike(0, 1));
        for (int i = 0; i <= size; i++) {
            Due.is("partner(0, 1, " + i + ") of " + sets, x.partner(0, 1, i), y.partner(0, 1, i));
        }
    }

    private static List<Integer> mirrored(List<Integer> numbers) {
        return numbers.stream().map(v -> 40 - v).toList();
    }
}
