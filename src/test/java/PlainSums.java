import java.util.ArrayList;
import java.util.List;
import java.util.TreeSet;
import java.util.regex.Matcher;
import java.util.regex.Pattern;

/**
 * The document once more, as slow and as near to its words as can be, to compare LittleSums with.
 * It shares nothing with the program but the document.
 */
final class PlainSums {
    static final int BAD = -1, NO = -2, FULL = -3, NONE = -4;
    private static final Pattern ITEM = Pattern.compile("e(\\d{1,2})|s(\\d{1,2})((,\\d{1,2})+)");

    private final List<TreeSet<Integer>> slots = new ArrayList<>();
    private final List<List<TreeSet<Integer>>> earlier = new ArrayList<>();
    private String text = "";

    PlainSums() {
        slots.addAll(told("s0,0,1,2,5;s1,0,1,4,5;s2,0,3,6,9,12;s3,0,1,10,11,20,21;"));
    }

    private static boolean slot(int k) {
        return 0 <= k && k <= 3;
    }

    private static boolean slots(int a, int b) {
        return slot(a) && slot(b);
    }

    private int change(int k, TreeSet<Integer> set) {
        earlier.add(new ArrayList<>(slots));
        if (earlier.size() > 6) {
            earlier.remove(0);
        }
        slots.set(k, set);
        return set.size();
    }

    int write(int letter) {
        if (letter < 32 || letter > 126) {
            return BAD;
        }
        if (text.length() == 200) {
            return FULL;
        }
        text += (char) letter;
        return text.length();
    }

    int wipe() {
        int was = text.length();
        text = "";
        return was;
    }

    int fault() {
        int start = 0;
        while (start < text.length()) {
            int end = text.indexOf(';', start);
            if (end < 0 || told(text.substring(start, end + 1)) == null) {
                return start;
            }
            start = end + 1;
        }
        return NONE;
    }

    private static List<TreeSet<Integer>> told(String text) {
        List<TreeSet<Integer>> sets = new ArrayList<>();
        for (int k = 0; k < 4; k++) {
            sets.add(new TreeSet<>());
        }
        if (text.isEmpty()) {
            return sets;
        }
        for (String item : text.substring(0, text.length() - 1).split(";", -1)) {
            Matcher m = ITEM.matcher(item);
            if (!m.matches()) {
                return null;
            }
            int k = Integer.parseInt(m.group(1) != null ? m.group(1) : m.group(2));
            TreeSet<Integer> set = new TreeSet<>();
            if (m.group(1) == null) {
                for (String number : m.group(3).substring(1).split(",")) {
                    int v = Integer.parseInt(number);
                    if (v > 40 || !set.isEmpty() && v <= set.last()) {
                        return null;
                    }
                    set.add(v);
                }
            }
            if (k > 3) {
                return null;
            }
            sets.set(k, set);
        }
        return sets;
    }

    int lay() {
        if (fault() != NONE) {
            return NO;
        }
        List<TreeSet<Integer>> sets = told(text);
        slots.clear();
        slots.addAll(sets);
        earlier.clear();
        return count(6);
    }

    int put(int k, int v) {
        if (!slot(k) || v < 0 || v > 40) {
            return BAD;
        }
        TreeSet<Integer> set = new TreeSet<>(slots.get(k));
        return set.add(v) ? change(k, set) : NO;
    }

    int take(int k, int v) {
        if (!slot(k) || v < 0 || v > 40) {
            return BAD;
        }
        TreeSet<Integer> set = new TreeSet<>(slots.get(k));
        return set.remove(v) ? change(k, set) : NO;
    }

    int becomeSums(int k, int a, int b) {
        if (!slot(k) || !slots(a, b)) {
            return BAD;
        }
        TreeSet<Integer> set = sums(slots.get(a), slots.get(b));
        return !set.isEmpty() && set.last() > 40 ? NO : change(k, set);
    }

    int move(int k, int a, int d, int v) {
        if (!slots(k, a) || d < 1 || d > 9 || v < -40 || v > 40) {
            return BAD;
        }
        TreeSet<Integer> set = new TreeSet<>();
        for (int x : slots.get(a)) {
            set.add(d * x + v);
        }
        return !set.isEmpty() && (set.first() < 0 || set.last() > 40) ? NO : change(k, set);
    }

    int shrink(int k, int a, int b) {
        if (!slot(k) || !slots(a, b)) {
            return BAD;
        }
        int bits = swell(a, b, 2);
        return bits < 0 ? bits : change(k, part(slots.get(a), bits));
    }

    int undo() {
        if (earlier.isEmpty()) {
            return NO;
        }
        List<TreeSet<Integer>> was = earlier.remove(earlier.size() - 1);
        slots.clear();
        slots.addAll(was);
        return earlier.size();
    }

    private static int ith(TreeSet<Integer> set, int i) {
        if (i == -1) {
            return set.size();
        }
        return i < set.size() ? new ArrayList<>(set).get(i) : NONE;
    }

    int member(int k, int i) {
        return !slot(k) || i < -1 ? BAD : ith(slots.get(k), i);
    }

    private static TreeSet<Integer> sums(TreeSet<Integer> a, TreeSet<Integer> b) {
        TreeSet<Integer> all = new TreeSet<>();
        for (int x : a) {
            for (int y : b) {
                all.add(x + y);
            }
        }
        return all;
    }

    int sum(int a, int b, int i) {
        return !slots(a, b) || i < -1 ? BAD : ith(sums(slots.get(a), slots.get(b)), i);
    }

    int difference(int a, int b, int i) {
        if (!slots(a, b) || i < -1) {
            return BAD;
        }
        TreeSet<Integer> all = new TreeSet<>();
        for (int x : slots.get(a)) {
            for (int y : slots.get(b)) {
                all.add(x - y + 40);
            }
        }
        return ith(all, i);
    }

    int times(int k, int n) {
        if (!slot(k) || n < 1 || n > 6) {
            return BAD;
        }
        TreeSet<Integer> all = slots.get(k);
        for (int i = 1; i < n; i++) {
            all = sums(slots.get(k), all);
        }
        return all.size();
    }

    int ways(int a, int b, int v) {
        if (!slots(a, b) || v < 0 || v > 80) {
            return BAD;
        }
        int many = 0;
        for (int x : slots.get(a)) {
            for (int y : slots.get(b)) {
                many += x + y == v ? 1 : 0;
            }
        }
        return many;
    }

    int energy(int k) {
        if (!slot(k)) {
            return BAD;
        }
        TreeSet<Integer> set = slots.get(k);
        int many = 0;
        for (int a : set) {
            for (int b : set) {
                for (int c : set) {
                    many += set.contains(a + b - c) ? 1 : 0;
                }
            }
        }
        return many;
    }

    int cover(int k, int what) {
        if (!slot(k) || what < 0 || what > 2) {
            return BAD;
        }
        TreeSet<Integer> set = slots.get(k);
        if (set.isEmpty()) {
            return NO;
        }
        if (set.size() == 1) {
            return what == 0 ? set.first() : 1;
        }
        for (int n = 1;; n++) {
            for (int d = 80; d >= 1; d--) {
                TreeSet<Integer> all = new TreeSet<>();
                for (int i = 0; i < n; i++) {
                    all.add(set.first() + i * d);
                }
                if (all.containsAll(set)) {
                    return what == 0 ? set.first() : what == 1 ? d : n;
                }
            }
        }
    }

    int grid(int k, int what) {
        if (!slot(k) || what < 0 || what > 4) {
            return BAD;
        }
        return slots.get(k).isEmpty() ? NO : grid(slots.get(k), what);
    }

    private static int grid(TreeSet<Integer> set, int what) {
        int b = set.first();
        int[] best = null;
        for (int d = 1; b + d <= 80; d++) {
            for (int e = d + 1; b + d + e <= 80; e++) {
                for (int m = 2; b + (m - 1) * d + e <= 80; m++) {
                    for (int n = 2; b + (m - 1) * d + (n - 1) * e <= 80; n++) {
                        boolean less = best == null || m * n < best[3] * best[4];
                        if (less && isGrid(set, b, d, e, m, n)) {
                            best = new int[] {b, d, e, m, n};
                        }
                    }
                }
            }
        }
        return best == null ? NONE : best[what];
    }

    private static boolean isGrid(TreeSet<Integer> set, int b, int d, int e, int m, int n) {
        boolean[] all = new boolean[81];
        for (int i = 0; i < m; i++) {
            for (int j = 0; j < n; j++) {
                int v = b + i * d + j * e;
                if (all[v]) {
                    return false;
                }
                all[v] = true;
            }
        }
        for (int v : set) {
            if (!all[v]) {
                return false;
            }
        }
        return true;
    }

    private boolean unpaired(int a, int b) {
        int size = slots.get(a).size();
        return size != slots.get(b).size() || size == 0 || size > 7;
    }

    int alike(int a, int b) {
        if (!slots(a, b)) {
            return BAD;
        }
        return unpaired(a, b) ? NO : pairing(a, b) == null ? 0 : 1;
    }

    int partner(int a, int b, int i) {
        if (!slots(a, b) || i < 0) {
            return BAD;
        }
        if (unpaired(a, b)) {
            return NO;
        }
        List<Integer> partners = pairing(a, b);
        return partners == null || i >= partners.size() ? NONE : partners.get(i);
    }

    private List<Integer> pairing(int a, int b) {
        List<Integer> from = new ArrayList<>(slots.get(a));
        return pairing(from, new ArrayList<>(), new ArrayList<>(slots.get(b)));
    }

    /** All orders of the rest, those with the least ahead first; only whole ones are looked at. */
    private static List<Integer> pairing(List<Integer> from, List<Integer> to, List<Integer> rest) {
        if (rest.isEmpty()) {
            return keepsSums(from, to) ? to : null;
        }
        for (Integer next : rest) {
            List<Integer> longer = new ArrayList<>(to);
            longer.add(next);
            List<Integer> fewer = new ArrayList<>(rest);
            fewer.remove(next);
            List<Integer> found = pairing(from, longer, fewer);
            if (found != null) {
                return found;
            }
        }
        return null;
    }

    private static boolean keepsSums(List<Integer> from, List<Integer> to) {
        int n = from.size();
        for (int a = 0; a < n; a++) {
            for (int b = 0; b < n; b++) {
                for (int c = 0; c < n; c++) {
                    for (int d = 0; d < n; d++) {
                        boolean here = from.get(a) + from.get(b) == from.get(c) + from.get(d);
                        boolean there = to.get(a) + to.get(b) == to.get(c) + to.get(d);
                        if (here != there) {
                            return false;
                        }
                    }
                }
            }
        }
        return true;
    }

    private static TreeSet<Integer> part(TreeSet<Integer> set, int bits) {
        List<Integer> numbers = new ArrayList<>(set);
        TreeSet<Integer> part = new TreeSet<>();
        for (int i = 0; i < numbers.size(); i++) {
            if ((bits >> i & 1) == 1) {
                part.add(numbers.get(i));
            }
        }
        return part;
    }

    int swell(int a, int b, int what) {
        if (!slots(a, b) || what < 0 || what > 2) {
            return BAD;
        }
        TreeSet<Integer> whole = slots.get(a);
        TreeSet<Integer> added = slots.get(b);
        if (whole.isEmpty() || added.isEmpty() || whole.size() > 12) {
            return NO;
        }
        int best = 0;
        TreeSet<Integer> bestPart = null;
        int bestSums = 0;
        for (int bits = 1; bits < 1 << whole.size(); bits++) {
            TreeSet<Integer> part = part(whole, bits);
            int many = sums(part, added).size();
            if (bestPart == null || swellsLess(part, many, bestPart, bestSums)) {
                best = bits;
                bestPart = part;
                bestSums = many;
            }
        }
        int shared = 1;
        for (int d = 1; d <= bestSums; d++) {
            shared = bestSums % d == 0 && bestPart.size() % d == 0 ? d : shared;
        }
        return what == 0 ? bestSums / shared : what == 1 ? bestPart.size() / shared : best;
    }

    private static boolean swellsLess(TreeSet<Integer> x, int many, TreeSet<Integer> y, int others) {
        if (many * y.size() != others * x.size()) {
            return many * y.size() < others * x.size();
        }
        if (x.size() != y.size()) {
            return x.size() > y.size();
        }
        List<Integer> here = new ArrayList<>(x);
        List<Integer> there = new ArrayList<>(y);
        for (int i = 0; i < here.size(); i++) {
            if (!here.get(i).equals(there.get(i))) {
                return here.get(i) < there.get(i);
            }
        }
        return false;
    }

    int floor(int a, int b) {
        if (!slots(a, b)) {
            return BAD;
        }
        if (slots.get(a).isEmpty() || slots.get(b).isEmpty()) {
            return NO;
        }
        return slots.get(a).size() + slots.get(b).size() - 1;
    }

    /** By the theorem: whether both are PROGRESSIONS of one d. */
    int tight(int a, int b) {
        if (!slots(a, b)) {
            return BAD;
        }
        TreeSet<Integer> x = slots.get(a);
        TreeSet<Integer> y = slots.get(b);
        if (x.isEmpty() || y.isEmpty()) {
            return NO;
        }
        boolean both = cover(a, 2) == x.size() && cover(b, 2) == y.size();
        return x.size() > 1 && y.size() > 1 && both && cover(a, 1) == cover(b, 1) ? 1 : 0;
    }

    int room(int k) {
        if (!slot(k)) {
            return BAD;
        }
        int size = slots.get(k).size();
        int many = times(k, 2);
        return size < 3 || many > 3 * size - 4 ? NONE : many - size + 1 - cover(k, 2);
    }

    int smallest(int n, int l, int what) {
        if (n < 1 || n > 8 || l < n - 1 || l > 14 || n == 1 && l != 0 || what < -2) {
            return BAD;
        }
        List<Integer> all = smallestSets(n, l);
        if (what == -1) {
            TreeSet<Integer> first = withBits(all.get(0));
            return sums(first, first).size();
        }
        return what == -2 ? all.size() : what < all.size() ? all.get(what) : NONE;
    }

    static List<Integer> smallestSets(int n, int l) {
        int least = Integer.MAX_VALUE;
        List<Integer> all = new ArrayList<>();
        for (int bits = 1; bits < 1 << 15; bits++) {
            if (Integer.bitCount(bits) == n) {
                TreeSet<Integer> set = withBits(bits);
                int many = set.first() == 0 && set.last() == l ? sums(set, set).size() : Integer.MAX_VALUE;
                if (many < least) {
                    all.clear();
                    least = many;
                }
                if (many == least && many < Integer.MAX_VALUE) {
                    all.add(bits);
                }
            }
        }
        return all;
    }

    private static TreeSet<Integer> withBits(int bits) {
        TreeSet<Integer> set = new TreeSet<>();
        for (int v = 0; v < 15; v++) {
            if ((bits >> v & 1) == 1) {
                set.add(v);
            }
        }
        return set;
    }

    int count(int what) {
        if (what < 0 || what > 6) {
            return BAD;
        }
        if (what < 4) {
            return slots.get(what).size();
        }
        int used = 0;
        for (TreeSet<Integer> set : slots) {
            used += set.isEmpty() ? 0 : 1;
        }
        return what == 4 ? earlier.size() : what == 5 ? text.length() : used;
    }
}
