import java.util.Arrays;

/**
 * Sets of whole numbers 0 to 40 that add little. A SET is held as the bits of a long: bit v stands
 * for the number v.
 */
public final class LittleSums {
    public static final int BAD = -1, NO = -2, FULL = -3, NONE = -4, ZERO = 100;

    private static final int SLOTS = 4;
    private static final int HIGHEST = 40;
    private static final int HIGHEST_SUM = 80;
    private static final int MOST_TIMES = 6;
    private static final int MOST_SWELLING = 12;
    private static final int MOST_PAIRED = 7;

    private static final long[] FIRST_SETS = {
        0b100111L,
        0b110011L,
        0b1001001001001L,
        0b1100000000110000000011L
    };

    private final long[] slots = new long[SLOTS];
    private final Script script = new Script();
    private final History history = new History();
    private final Wide sums = new Wide();
    private final Wide addend = new Wide();
    private final GridSearch grids = new GridSearch();
    private final PairingSearch pairings = new PairingSearch();
    private final SwellingSearch swellings = new SwellingSearch();
    private final SmallestSearch smallestSets = new SmallestSearch();

    public LittleSums() {
        System.arraycopy(FIRST_SETS, 0, slots, 0, SLOTS);
    }

    // ---- told

    public int write(int letter) {
        if (letter < 32 || letter > 126) {
            return BAD;
        }
        return script.append(letter) ? script.length() : FULL;
    }

    public int wipe() {
        int length = script.length();
        script.clear();
        return length;
    }

    public int fault() {
        return script.read();
    }

    public int lay() {
        if (script.read() != NONE) {
            return NO;
        }
        for (int k = 0; k < SLOTS; k++) {
            slots[k] = script.told(k);
        }
        history.clear();
        return slotsInUse();
    }

    public int put(int k, int v) {
        if (!isSlot(k) || !isNumber(v)) {
            return BAD;
        }
        return has(slots[k], v) ? NO : change(k, slots[k] | 1L << v);
    }

    public int take(int k, int v) {
        if (!isSlot(k) || !isNumber(v)) {
            return BAD;
        }
        return has(slots[k], v) ? change(k, slots[k] & ~(1L << v)) : NO;
    }

    public int becomeSums(int k, int a, int b) {
        if (!isSlot(k) || !isSlot(a) || !isSlot(b)) {
            return BAD;
        }
        findSums(slots[a], slots[b]);
        return sums.greatest() > HIGHEST ? NO : change(k, sums.lowest64());
    }

    public int move(int k, int a, int d, int v) {
        if (!isSlot(k) || !isSlot(a) || d < 1 || d > 9 || v < -HIGHEST || v > HIGHEST) {
            return BAD;
        }
        long moved = 0L;
        for (int old = 0; old <= HIGHEST; old++) {
            if (has(slots[a], old)) {
                int fresh = d * old + v;
                if (!isNumber(fresh)) {
                    return NO;
                }
                moved |= 1L << fresh;
            }
        }
        return change(k, moved);
    }

    public int shrink(int k, int a, int b) {
        if (!isSlot(k) || !isSlot(a) || !isSlot(b)) {
            return BAD;
        }
        if (!canSwell(a, b)) {
            return NO;
        }
        swellings.seek(slots[a], slots[b]);
        return change(k, swellings.bestSet());
    }

    public int undo() {
        int k = history.latestSlot();
        if (!isSlot(k)) {
            return NO;
        }
        slots[k] = history.latestSet();
        history.dropLatest();
        return history.size();
    }

    // ---- sums

    public int member(int k, int i) {
        if (!isSlot(k) || i < -1) {
            return BAD;
        }
        return i == -1 ? Long.bitCount(slots[k]) : numberAt(slots[k], i);
    }

    public int sum(int a, int b, int i) {
        if (!isSlot(a) || !isSlot(b) || i < -1) {
            return BAD;
        }
        findSums(slots[a], slots[b]);
        return i == -1 ? sums.size() : sums.numberAtPlace(i);
    }

    public int difference(int a, int b, int i) {
        if (!isSlot(a) || !isSlot(b) || i < -1) {
            return BAD;
        }
        findSums(slots[a], mirrored(slots[b]));
        return i == -1 ? sums.size() : sums.numberAtPlace(i);
    }

    public int times(int k, int n) {
        if (!isSlot(k) || n < 1 || n > MOST_TIMES) {
            return BAD;
        }
        sums.become(slots[k]);
        for (int done = 1; done < n; done++) {
            addend.becomeLike(sums);
            sums.becomeSumsOf(slots[k], addend);
        }
        return sums.size();
    }

    public int ways(int a, int b, int v) {
        if (!isSlot(a) || !isSlot(b) || v < 0 || v > HIGHEST_SUM) {
            return BAD;
        }
        return waysOf(slots[a], slots[b], v);
    }

    public int energy(int k) {
        if (!isSlot(k)) {
            return BAD;
        }
        int total = 0;
        for (int v = 0; v <= HIGHEST_SUM; v++) {
            int pairs = waysOf(slots[k], slots[k], v);
            total += pairs * pairs;
        }
        return total;
    }

    // ---- covers

    public int cover(int k, int what) {
        if (!isSlot(k) || what < 0 || what > 2) {
            return BAD;
        }
        if (slots[k] == 0L) {
            return NO;
        }
        switch (what) {
            case 0:
                return leastOf(slots[k]);
            case 1:
                return coverStep(slots[k]);
            default:
                return coverLength(slots[k]);
        }
    }

    public int grid(int k, int what) {
        if (!isSlot(k) || what < 0 || what > 4) {
            return BAD;
        }
        if (slots[k] == 0L) {
            return NO;
        }
        return grids.seek(slots[k]) ? grids.answer(what) : NONE;
    }

    // ---- alike

    public int alike(int a, int b) {
        if (!isSlot(a) || !isSlot(b)) {
            return BAD;
        }
        if (!canPair(a, b)) {
            return NO;
        }
        return pairings.seek(slots[a], slots[b]) ? 1 : 0;
    }

    public int partner(int a, int b, int i) {
        if (!isSlot(a) || !isSlot(b) || i < 0) {
            return BAD;
        }
        if (!canPair(a, b)) {
            return NO;
        }
        return pairings.seek(slots[a], slots[b]) ? pairings.partnerOf(i) : NONE;
    }

    // ---- swelling

    public int swell(int a, int b, int what) {
        if (!isSlot(a) || !isSlot(b) || what < 0 || what > 2) {
            return BAD;
        }
        if (!canSwell(a, b)) {
            return NO;
        }
        swellings.seek(slots[a], slots[b]);
        return swellings.answer(what);
    }

    // ---- theorems

    public int floor(int a, int b) {
        if (!isSlot(a) || !isSlot(b)) {
            return BAD;
        }
        return slots[a] == 0L || slots[b] == 0L ? NO : fewestSums(slots[a], slots[b]);
    }

    public int tight(int a, int b) {
        if (!isSlot(a) || !isSlot(b)) {
            return BAD;
        }
        if (slots[a] == 0L || slots[b] == 0L) {
            return NO;
        }
        if (Long.bitCount(slots[a]) < 2 || Long.bitCount(slots[b]) < 2) {
            return 0;
        }
        findSums(slots[a], slots[b]);
        return sums.size() == fewestSums(slots[a], slots[b]) ? 1 : 0;
    }

    public int room(int k) {
        if (!isSlot(k)) {
            return BAD;
        }
        int size = Long.bitCount(slots[k]);
        findSums(slots[k], slots[k]);
        if (size < 3 || sums.size() > 3 * size - 4) {
            return NONE;
        }
        return sums.size() - size + 1 - coverLength(slots[k]);
    }

    public int smallest(int n, int l, int what) {
        if (!SmallestSearch.isTold(n, l) || what < -2) {
            return BAD;
        }
        smallestSets.seek(n, l);
        switch (what) {
            case -1:
                return smallestSets.fewest();
            case -2:
                return smallestSets.size();
            default:
                return smallestSets.setAt(what);
        }
    }

    public int count(int what) {
        if (isSlot(what)) {
            return Long.bitCount(slots[what]);
        }
        switch (what) {
            case 4:
                return history.size();
            case 5:
                return script.length();
            case 6:
                return slotsInUse();
            default:
                return BAD;
        }
    }

    // ---- the slots

    private int change(int k, long set) {
        history.keep(k, slots[k]);
        slots[k] = set;
        return Long.bitCount(set);
    }

    private int slotsInUse() {
        int used = 0;
        for (int k = 0; k < SLOTS; k++) {
            if (slots[k] != 0L) {
                used++;
            }
        }
        return used;
    }

    private boolean canSwell(int a, int b) {
        return slots[a] != 0L && slots[b] != 0L && Long.bitCount(slots[a]) <= MOST_SWELLING;
    }

    private boolean canPair(int a, int b) {
        int size = Long.bitCount(slots[a]);
        return size == Long.bitCount(slots[b]) && size > 0 && size <= MOST_PAIRED;
    }

    private void findSums(long a, long b) {
        addend.become(b);
        sums.becomeSumsOf(a, addend);
    }

    // ---- sets as bits

    private static boolean isSlot(int k) {
        return k >= 0 && k < SLOTS;
    }

    private static boolean isNumber(int v) {
        return v >= 0 && v <= HIGHEST;
    }

    private static boolean has(long set, int v) {
        return isNumber(v) && (set >>> v & 1L) != 0L;
    }

    private static int leastOf(long set) {
        return Long.numberOfTrailingZeros(set);
    }

    private static int greatestOf(long set) {
        return 63 - Long.numberOfLeadingZeros(set);
    }

    private static int numberAt(long set, int i) {
        if (i < 0 || i >= Long.bitCount(set)) {
            return NONE;
        }
        long rest = set;
        for (int passed = 0; passed < i; passed++) {
            rest &= rest - 1L;
        }
        return leastOf(rest);
    }

    /** Every v becomes 40 less v, so that DIFFERENCES, told as 40 more, are SUMS. */
    private static long mirrored(long set) {
        return Long.reverse(set) >>> 63 - HIGHEST;
    }

    private static int listNumbers(long set, int[] row) {
        int size = 0;
        for (int v = 0; v <= HIGHEST && size < row.length; v++) {
            if (has(set, v)) {
                row[size++] = v;
            }
        }
        return size;
    }

    private static int waysOf(long a, long b, int v) {
        int pairs = 0;
        for (int first = 0; first <= HIGHEST; first++) {
            if (has(a, first) && has(b, v - first)) {
                pairs++;
            }
        }
        return pairs;
    }

    private static int fewestSums(long a, long b) {
        return Long.bitCount(a) + Long.bitCount(b) - 1;
    }

    private static int coverStep(long set) {
        int least = leastOf(set);
        int step = 0;
        for (int v = least + 1; v <= HIGHEST; v++) {
            if (has(set, v)) {
                step = greatestDivisor(step, v - least);
            }
        }
        return step == 0 ? 1 : step;
    }

    private static int coverLength(long set) {
        int step = coverStep(set);
        return step < 1 ? NONE : (greatestOf(set) - leastOf(set)) / step + 1;
    }

    private static int greatestDivisor(int a, int b) {
        int of = a;
        int by = b;
        for (int turn = 0; turn < 64 && by != 0; turn++) {
            int rest = of % by;
            of = by;
            by = rest;
        }
        return of;
    }

    /** THE TEXT, and what its ITEMS tell of the SLOTS. */
    private static final class Script {
        private static final int MOST = 200;
        private static final int WRONG = -1;

        private final char[] letters = new char[MOST];
        private final long[] sets = new long[SLOTS];
        private int length;
        private long numbers;

        int length() {
            return length;
        }

        void clear() {
            length = 0;
        }

        boolean append(int letter) {
            if (length >= MOST) {
                return false;
            }
            letters[length++] = (char) letter;
            return true;
        }

        long told(int k) {
            return isSlot(k) ? sets[k] : 0L;
        }

        /** Answers FAULT, or NONE: then the sets are those that THE TEXT tells. */
        int read() {
            Arrays.fill(sets, 0L);
            int start = 0;
            while (start < length) {
                int behind = readItem(start);
                if (behind <= start) {
                    return start;
                }
                start = behind;
            }
            return NONE;
        }

        /** Answers the place behind the ITEM's semicolon. */
        private int readItem(int start) {
            int kind = letterAt(start);
            int figures = figuresAt(start + 1);
            if (kind != 's' && kind != 'e' || figures == 0) {
                return WRONG;
            }
            int k = valueAt(start + 1, figures);
            int at = start + 1 + figures;
            numbers = 0L;
            if (kind == 's') {
                at = readNumbers(at);
            }
            if (!isSlot(k) || letterAt(at) != ';') {
                return WRONG;
            }
            sets[k] = numbers;
            return at + 1;
        }

        /** Answers the place behind the last number. */
        private int readNumbers(int start) {
            int at = start;
            int last = -1;
            while (at < length && letterAt(at) == ',') {
                int figures = figuresAt(at + 1);
                int v = valueAt(at + 1, figures);
                if (figures == 0 || !isNumber(v) || v <= last) {
                    return WRONG;
                }
                numbers |= 1L << v;
                last = v;
                at += 1 + figures;
            }
            return last < 0 ? WRONG : at;
        }

        /** A place outside THE TEXT has the letter 0, which is never written. */
        private int letterAt(int at) {
            return at >= 0 && at < length && at < MOST ? letters[at] : 0;
        }

        private boolean isFigure(int at) {
            int letter = letterAt(at);
            return letter >= '0' && letter <= '9';
        }

        private int figuresAt(int at) {
            if (!isFigure(at)) {
                return 0;
            }
            return isFigure(at + 1) ? 2 : 1;
        }

        private int valueAt(int at, int figures) {
            int value = 0;
            for (int i = 0; i < figures; i++) {
                value = 10 * value + letterAt(at + i) - '0';
            }
            return value;
        }
    }

    /** What the SLOTS were ahead of the latest changes. */
    private static final class History {
        private static final int MOST = 6;

        private final int[] changed = new int[MOST];
        private final long[] before = new long[MOST];
        private int size;

        int size() {
            return size;
        }

        void clear() {
            size = 0;
        }

        void keep(int k, long set) {
            if (size >= MOST) {
                System.arraycopy(changed, 1, changed, 0, MOST - 1);
                System.arraycopy(before, 1, before, 0, MOST - 1);
                size = MOST - 1;
            }
            changed[size] = k;
            before[size] = set;
            size++;
        }

        int latestSlot() {
            return size > 0 ? changed[size - 1] : NONE;
        }

        long latestSet() {
            return size > 0 ? before[size - 1] : 0L;
        }

        void dropLatest() {
            if (size > 0) {
                size--;
            }
        }
    }

    /** Numbers 0 to 255 as bits: SUMS of six times a SET go up to 240. */
    private static final class Wide {
        private static final int WORDS = 4;
        private static final int BITS = 64;

        private final long[] words = new long[WORDS];

        void become(long set) {
            Arrays.fill(words, 0L);
            words[0] = set;
        }

        void becomeLike(Wide other) {
            System.arraycopy(other.words, 0, words, 0, WORDS);
        }

        void becomeSumsOf(long set, Wide other) {
            Arrays.fill(words, 0L);
            for (int v = 0; v <= HIGHEST; v++) {
                if (has(set, v)) {
                    addMoved(other, v);
                }
            }
        }

        private void addMoved(Wide other, int by) {
            words[0] |= other.words[0] << by;
            for (int w = 1; w < WORDS; w++) {
                words[w] |= other.words[w] << by | carried(other.words[w - 1], by);
            }
        }

        /** Java shifts by 64 as by 0, so a move by 0, which carries nothing, stands apart. */
        static long carried(long word, int by) {
            return by == 0 ? 0L : word >>> BITS - by;
        }

        long lowest64() {
            return words[0];
        }

        int size() {
            int size = 0;
            for (int w = 0; w < WORDS; w++) {
                size += Long.bitCount(words[w]);
            }
            return size;
        }

        int greatest() {
            for (int w = WORDS - 1; w >= 0; w--) {
                if (words[w] != 0L) {
                    return BITS * w + greatestOf(words[w]);
                }
            }
            return NONE;
        }

        int numberAtPlace(int i) {
            int left = i;
            for (int w = 0; w < WORDS; w++) {
                int here = Long.bitCount(words[w]);
                if (left < here) {
                    return BITS * w + numberAt(words[w], left);
                }
                left -= here;
            }
            return NONE;
        }
    }

    /** BEST GRID of a SET; the last one sought is kept, as each of its numbers is asked by itself. */
    private static final class GridSearch {
        private static final int LEAST_AREA = 4;
        private static final int MOST_AREA = HIGHEST_SUM + 1;
        /** 60 and 72 have the most: 12 with 1 and themselves, which are not listed. */
        private static final int MOST_FACTORS = 10;

        private final int[] factors = new int[MOST_FACTORS];
        private long sought;
        private boolean found;
        private long fromBase;
        private int base, span, widest;
        private int firstStep, secondStep, firstLength, secondLength;

        int answer(int what) {
            switch (what) {
                case 0:
                    return base;
                case 1:
                    return firstStep;
                case 2:
                    return secondStep;
                case 3:
                    return firstLength;
                default:
                    return secondLength;
            }
        }

        boolean seek(long set) {
            if (set == sought) {
                return found;
            }
            sought = set;
            base = leastOf(set);
            fromBase = set >>> base;
            span = greatestOf(set) - base;
            widest = HIGHEST_SUM - base;
            found = false;
            int size = Long.bitCount(set);
            for (int area = Math.max(LEAST_AREA, size); area <= MOST_AREA && !found; area++) {
                found = seekArea(area);
            }
            return found;
        }

        private boolean seekArea(int area) {
            int many = listFactors(area);
            if (many == 0) {
                return false;
            }
            for (int d = 1; d < widest; d++) {
                for (int e = d + 1; d + e <= widest; e++) {
                    if (seekLengths(d, e, many)) {
                        return true;
                    }
                }
            }
            return false;
        }

        private int listFactors(int area) {
            int many = 0;
            for (int m = 2; 2 * m <= area; m++) {
                if (area % m == 0 && many < MOST_FACTORS) {
                    factors[many++] = m;
                }
            }
            return many;
        }

        /** A factor and its like from the other end of the row make the area together. */
        private boolean seekLengths(int d, int e, int many) {
            for (int f = 0; f < many; f++) {
                int m = factors[f];
                int n = factors[many - 1 - f];
                if (reaches(d, e, m, n) && hasAll(d, e, m, n) && tellsEachOnce(d, e, m, n)) {
                    firstStep = d;
                    secondStep = e;
                    firstLength = m;
                    secondLength = n;
                    return true;
                }
            }
            return false;
        }

        private boolean reaches(int d, int e, int m, int n) {
            int last = (m - 1) * d + (n - 1) * e;
            return last >= span && last <= widest;
        }

        private boolean hasAll(int d, int e, int m, int n) {
            long row = 0L;
            for (int i = 0; i < m && i * d <= span; i++) {
                row |= 1L << i * d;
            }
            long missing = fromBase;
            for (int j = 0; j < n && j * e <= span; j++) {
                missing &= ~(row << j * e);
            }
            return missing == 0L;
        }

        /** The first i d and j e that are alike have i = e / g and j = d / g. */
        private static boolean tellsEachOnce(int d, int e, int m, int n) {
            int g = greatestDivisor(d, e);
            return g > 0 && (e / g >= m || d / g >= n);
        }
    }

    /** THE PAIRING of two SETS; the last one sought is kept. */
    private static final class PairingSearch {
        private final int[] first = new int[MOST_PAIRED];
        private final int[] second = new int[MOST_PAIRED];
        private final int[] chosen = new int[MOST_PAIRED];
        /** The sum of partners that goes with a sum of the first SET, and the other way round. */
        private final int[] there = new int[HIGHEST_SUM + 1];
        private final int[] back = new int[HIGHEST_SUM + 1];
        /** How many pairs of paired numbers have a sum: with none, there and back tell nothing. */
        private final int[] uses = new int[HIGHEST_SUM + 1];
        private final int[] partnerUses = new int[HIGHEST_SUM + 1];
        private long firstSet, secondSet;
        private int size, taken;
        private boolean paired;

        boolean seek(long a, long b) {
            if (a != firstSet || b != secondSet) {
                firstSet = a;
                secondSet = b;
                size = Math.min(listNumbers(a, first), listNumbers(b, second));
                taken = 0;
                Arrays.fill(uses, 0);
                Arrays.fill(partnerUses, 0);
                paired = pairFrom(this, 0);
            }
            return paired;
        }

        int partnerOf(int i) {
            return i >= 0 && i < size ? second[chosen[i]] : NONE;
        }

        /** The least partners are tried first, so the first pairing that fits is the one told. */
        private static boolean pairFrom(PairingSearch search, int at) {
            if (at >= search.size || at >= MOST_PAIRED) {
                return true;
            }
            for (int c = 0; c < search.size; c++) {
                if ((search.taken >>> c & 1) == 0) {
                    int joined = search.join(at, c);
                    if (joined > at && pairFrom(search, at + 1)) {
                        return true;
                    }
                    search.part(at, joined);
                }
            }
            return false;
        }

        /** Answers how many sums with the numbers ahead and itself fit, up to the first that does not. */
        private int join(int at, int c) {
            chosen[at] = c;
            taken |= 1 << c;
            for (int other = 0; other <= at; other++) {
                int s = first[at] + first[other];
                int t = second[c] + second[chosen[other]];
                if (uses[s] > 0 && there[s] != t || partnerUses[t] > 0 && back[t] != s) {
                    return other;
                }
                there[s] = t;
                back[t] = s;
                uses[s]++;
                partnerUses[t]++;
            }
            return at + 1;
        }

        private void part(int at, int joined) {
            int c = chosen[at];
            taken &= ~(1 << c);
            for (int other = 0; other < joined && other <= at; other++) {
                uses[first[at] + first[other]]--;
                partnerUses[second[c] + second[chosen[other]]]--;
            }
        }
    }

    /** LEAST SWELLING of a SET by another one; the last one sought is kept. */
    private static final class SwellingSearch {
        private final int[] numbers = new int[MOST_SWELLING];
        /** At t stand the SUMS of those of the part that are the t-th of the SET or behind it. */
        private final long[] low = new long[MOST_SWELLING + 1];
        private final long[] high = new long[MOST_SWELLING + 1];
        private long whole, added;
        private int bestPart, bestSums, bestSize;

        void seek(long a, long b) {
            if (a == whole && b == added) {
                return;
            }
            whole = a;
            added = b;
            bestPart = 0;
            Arrays.fill(low, 0L);
            Arrays.fill(high, 0L);
            int size = listNumbers(a, numbers);
            for (int part = 1; part < 1 << size; part++) {
                addUp(Integer.numberOfTrailingZeros(part));
                judge(part, Long.bitCount(low[0]) + Long.bitCount(high[0]));
            }
        }

        /** Counting up changes a part from its lowest bit down alone, so what stands above holds. */
        private void addUp(int lowest) {
            if (lowest < 0 || lowest >= MOST_SWELLING) {
                return;
            }
            int by = numbers[lowest];
            long lowSums = low[lowest + 1] | added << by;
            long highSums = high[lowest + 1] | Wide.carried(added, by);
            for (int t = 0; t <= lowest; t++) {
                low[t] = lowSums;
                high[t] = highSums;
            }
        }

        private void judge(int part, int many) {
            int size = Integer.bitCount(part);
            int here = many * bestSize;
            int there = bestSums * size;
            if (bestPart == 0 || here < there || here == there && isAhead(part, size)) {
                bestPart = part;
                bestSums = many;
                bestSize = size;
            }
        }

        /** Of two parts of one size, the one that has the lowest unlike bit has the least number. */
        private boolean isAhead(int part, int size) {
            int unlike = part ^ bestPart;
            return size > bestSize || size == bestSize && (part & unlike & -unlike) != 0;
        }

        int answer(int what) {
            int shared = greatestDivisor(bestSums, bestSize);
            if (what == 2 || shared < 1) {
                return bestPart;
            }
            return what == 0 ? bestSums / shared : bestSize / shared;
        }

        long bestSet() {
            long set = 0L;
            for (int i = 0; i < MOST_SWELLING; i++) {
                if ((bestPart >>> i & 1) != 0) {
                    set |= 1L << numbers[i];
                }
            }
            return set;
        }
    }

    /** SMALLEST by n and L; how many SUMS and SETS the last ones had is kept. */
    private static final class SmallestSearch {
        private static final int MOST_NUMBERS = 8;
        private static final int LONGEST = 14;

        private int numbers, length;
        private int fewest, size;

        static boolean isTold(int n, int l) {
            if (n == 1) {
                return l == 0;
            }
            return n > 1 && n <= MOST_NUMBERS && l >= n - 1 && l <= LONGEST;
        }

        int fewest() {
            return fewest;
        }

        int size() {
            return size;
        }

        void seek(int n, int l) {
            if (n == numbers && l == length) {
                return;
            }
            numbers = n;
            length = l;
            size = 0;
            for (int between = 0; between < betweens(); between++) {
                int set = setWith(between);
                if (Integer.bitCount(set) == numbers) {
                    countIn(sumsWithItself(set));
                }
            }
        }

        private void countIn(int many) {
            if (size == 0 || many < fewest) {
                fewest = many;
                size = 0;
            }
            if (many == fewest) {
                size++;
            }
        }

        int setAt(int i) {
            if (i < 0 || i >= size) {
                return NONE;
            }
            int passed = 0;
            for (int between = 0; between < betweens(); between++) {
                int set = setWith(between);
                if (Integer.bitCount(set) == numbers && sumsWithItself(set) == fewest) {
                    if (passed == i) {
                        return set;
                    }
                    passed++;
                }
            }
            return NONE;
        }

        /** How many choices of the numbers between 0 and L there are. */
        private int betweens() {
            return length < 1 || length > LONGEST ? 1 : 1 << length - 1;
        }

        private int setWith(int between) {
            return 1 | between << 1 | 1 << length;
        }

        private int sumsWithItself(int set) {
            int all = 0;
            for (int v = 0; v <= length; v++) {
                if ((set >>> v & 1) != 0) {
                    all |= set << v;
                }
            }
            return Integer.bitCount(all);
        }
    }
}
