import java.util.List;
import java.util.function.Supplier;

/**
 * Every argument of every call: the last value that is told on either side and the first that is
 * not; which of several refusals counts; and that a refused call, and one that only asks, changes
 * nothing of SLOTS, THE TEXT and what can be UNDONE.
 */
public final class RefusalsTest {
    private static final int BAD = -1, NO = -2, FULL = -3, NONE = -4;
    private static final int MIN = Integer.MIN_VALUE, MAX = Integer.MAX_VALUE;

    private interface Call {
        int on(LittleSums x);
    }

    private interface CallWith {
        int on(LittleSums x, int argument);
    }

    private RefusalsTest() {
    }

    public static void main(String[] args) {
        theBusyOne();
        slotsOfChanges();
        slotsOfSums();
        slotsOfShapes();
        numbersOfChanges();
        numbersOfQuestions();
        placesFromTheLeast();
        changesRefused();
        questionsRefused();
        badAheadOfFull();
        badAheadOfNo();
        badAheadOfNone();
        noAheadOfNone();
        nothingUndone();
        faultNotLaid();
        askingChangesNothing();
        Due.end();
    }

    /** SLOTS of 3, none, 13 and 8 numbers, a TEXT that tells others, and more than 6 changes behind it. */
    private static LittleSums busy() {
        LittleSums x = new LittleSums();
        Given.write(x, "s0,1,3,40;s2" + Given.upTo(0, 11) + ";s3,2,4,6,8,10,12,14;");
        x.lay();
        x.put(2, 12);
        x.put(3, 16);
        x.take(0, 3);
        x.put(0, 3);
        x.move(3, 3, 1, 0);
        x.take(0, 40);
        x.put(0, 40);
        Given.write(x, "e0;s1,9;");
        return x;
    }

    private static LittleSums full() {
        LittleSums x = new LittleSums();
        x.put(0, 40);
        x.take(1, 4);
        Given.write(x, "e0;".repeat(64) + "s1,7,30;");
        return x;
    }

    private static LittleSums faulty() {
        LittleSums x = new LittleSums();
        x.put(0, 40);
        x.take(1, 4);
        Given.write(x, "s0,1;s1,2;s2,3,3;s3,4;");
        return x;
    }

    private static void theBusyOne() {
        LittleSums x = busy();
        Given.slotIs("busy", x, 0, 1, 3, 40);
        Given.slotIs("busy", x, 1);
        Given.slotIs("busy", x, 2, 0, 1, 2, 3, 4, 5, 6, 7, 8, 9, 10, 11, 12);
        Given.slotIs("busy", x, 3, 2, 4, 6, 8, 10, 12, 14, 16);
        Due.is("count(4)", x.count(4), 6);
        Due.is("fault()", x.fault(), NONE);
    }

    private static void answersAndKeeps(String call, Supplier<LittleSums> given, Call made, int want) {
        LittleSums x = given.get();
        Due.is(call, made.on(x), want);
        keeps(call, given, x);
    }

    private static void keeps(String call, Supplier<LittleSums> given, LittleSums x) {
        List<Integer> due = Given.shown(given.get());
        Due.holds("nothing changes by " + call, Given.shown(x).equals(due));
    }

    private static void refused(String call, Call made, int want) {
        answersAndKeeps(call, RefusalsTest::busy, made, want);
    }

    /** An argument that is told from least to most. */
    private static void told(String call, CallWith made, int least, int most) {
        int[] outside = {least - 1, most + 1, MIN, MAX};
        for (int v : outside) {
            refused(call + " with " + v, x -> made.on(x, v), BAD);
        }
        for (int v = least; v <= most; v++) {
            Due.holds(call + " with " + v + " is not BAD", made.on(busy(), v) != BAD);
        }
    }

    private static void slot(String call, CallWith made) {
        told(call, made, 0, 3);
    }

    private static void slotsOfChanges() {
        Due.sentence("BAD: a number is none that is told (SLOTS 0 to 3).");
        slot("put, k", (x, k) -> x.put(k, 20));
        slot("take, k", (x, k) -> x.take(k, 2));
        slot("becomeSums, k", (x, k) -> x.becomeSums(k, 2, 2));
        slot("becomeSums, a", (x, a) -> x.becomeSums(1, a, 2));
        slot("becomeSums, b", (x, b) -> x.becomeSums(1, 2, b));
        slot("move, k", (x, k) -> x.move(k, 2, 2, 1));
        slot("move, a", (x, a) -> x.move(1, a, 1, 0));
        slot("shrink, k", (x, k) -> x.shrink(k, 0, 2));
        slot("shrink, a", (x, a) -> x.shrink(1, a, 2));
        slot("shrink, b", (x, b) -> x.shrink(1, 0, b));
    }

    private static void slotsOfSums() {
        slot("member, k", (x, k) -> x.member(k, -1));
        slot("sum, a", (x, a) -> x.sum(a, 0, -1));
        slot("sum, b", (x, b) -> x.sum(0, b, -1));
        slot("difference, a", (x, a) -> x.difference(a, 0, -1));
        slot("difference, b", (x, b) -> x.difference(0, b, -1));
        slot("times, k", (x, k) -> x.times(k, 2));
        slot("ways, a", (x, a) -> x.ways(a, 0, 4));
        slot("ways, b", (x, b) -> x.ways(0, b, 4));
        slot("energy", (x, k) -> x.energy(k));
    }

    private static void slotsOfShapes() {
        slot("cover, k", (x, k) -> x.cover(k, 0));
        slot("grid, k", (x, k) -> x.grid(k, 0));
        slot("alike, a", (x, a) -> x.alike(a, 0));
        slot("alike, b", (x, b) -> x.alike(0, b));
        slot("partner, a", (x, a) -> x.partner(a, 0, 0));
        slot("partner, b", (x, b) -> x.partner(0, b, 0));
        slot("swell, a", (x, a) -> x.swell(a, 2, 0));
        slot("swell, b", (x, b) -> x.swell(0, b, 0));
        slot("floor, a", (x, a) -> x.floor(a, 0));
        slot("floor, b", (x, b) -> x.floor(0, b));
        slot("tight, a", (x, a) -> x.tight(a, 0));
        slot("tight, b", (x, b) -> x.tight(0, b));
        slot("room, k", (x, k) -> x.room(k));
    }

    private static void numbersOfChanges() {
        told("write", (x, letter) -> x.write(letter), 32, 126);
        told("put, v", (x, v) -> x.put(0, v), 0, 40);
        told("take, v", (x, v) -> x.take(0, v), 0, 40);
        told("move, d", (x, d) -> x.move(1, 0, d, 0), 1, 9);
        told("move, v", (x, v) -> x.move(1, 0, 1, v), -40, 40);
    }

    private static void numbersOfQuestions() {
        told("times, n", (x, n) -> x.times(0, n), 1, 6);
        told("ways, v", (x, v) -> x.ways(0, 0, v), 0, 80);
        told("cover, what", (x, what) -> x.cover(0, what), 0, 2);
        told("grid, what", (x, what) -> x.grid(0, what), 0, 4);
        told("swell, what", (x, what) -> x.swell(0, 2, what), 0, 2);
        told("count", (x, what) -> x.count(what), 0, 6);
        for (int length = 1; length <= 14; length++) {
            int l = length;
            told("smallest, n with L " + l, (x, n) -> x.smallest(n, l, -1), 2, Math.min(8, l + 1));
        }
        for (int size = 2; size <= 8; size++) {
            int n = size;
            told("smallest, L with n " + n, (x, l) -> x.smallest(n, l, -1), n - 1, 14);
        }
        told("smallest, n with L 0", (x, n) -> x.smallest(n, 0, -1), 1, 1);
        told("smallest, L with n 1", (x, l) -> x.smallest(1, l, -1), 0, 0);
    }

    /** An argument that is told from least on; above some place there is none. */
    private static void toldFrom(String call, CallWith made, int least, int behind) {
        refused(call + " with " + (least - 1), x -> made.on(x, least - 1), BAD);
        refused(call + " with MIN", x -> made.on(x, MIN), BAD);
        refused(call + " with " + behind, x -> made.on(x, behind), NONE);
        refused(call + " with MAX", x -> made.on(x, MAX), NONE);
        for (int i = least; i < behind; i++) {
            Due.holds(call + " with " + i + " is one", made.on(busy(), i) >= 0);
        }
    }

    private static void placesFromTheLeast() {
        toldFrom("member, i", (x, i) -> x.member(0, i), -1, 3);
        toldFrom("member of none, i", (x, i) -> x.member(1, i), -1, 0);
        toldFrom("sum, i", (x, i) -> x.sum(0, 0, i), -1, 6);
        toldFrom("sum with none, i", (x, i) -> x.sum(0, 1, i), -1, 0);
        toldFrom("difference, i", (x, i) -> x.difference(0, 0, i), -1, 7);
        toldFrom("difference with none, i", (x, i) -> x.difference(1, 0, i), -1, 0);
        toldFrom("partner, i", (x, i) -> x.partner(0, 0, i), 0, 3);
        toldFrom("smallest, what", (x, what) -> x.smallest(3, 5, what), -2, 4);
    }

    private static void changesRefused() {
        Due.sentence("NO: not as things stand.");
        refused("put(0, 40)", x -> x.put(0, 40), NO);
        refused("take(0, 2)", x -> x.take(0, 2), NO);
        refused("take(1, 0)", x -> x.take(1, 0), NO);
        refused("becomeSums(1, 0, 0)", x -> x.becomeSums(1, 0, 0), NO);
        refused("becomeSums(0, 0, 2)", x -> x.becomeSums(0, 0, 2), NO);
        refused("becomeSums(2, 3, 0)", x -> x.becomeSums(2, 3, 0), NO);
        refused("move(0, 0, 1, 1)", x -> x.move(0, 0, 1, 1), NO);
        refused("move(1, 0, 1, -2)", x -> x.move(1, 0, 1, -2), NO);
        refused("move(2, 2, 9, 40)", x -> x.move(2, 2, 9, 40), NO);
        refused("shrink(0, 1, 0)", x -> x.shrink(0, 1, 0), NO);
        refused("shrink(0, 0, 1)", x -> x.shrink(0, 0, 1), NO);
        refused("shrink(2, 2, 0)", x -> x.shrink(2, 2, 0), NO);
    }

    private static void questionsRefused() {
        refused("cover(1, 0)", x -> x.cover(1, 0), NO);
        refused("grid(1, 0)", x -> x.grid(1, 0), NO);
        refused("alike(0, 1)", x -> x.alike(0, 1), NO);
        refused("alike(1, 1)", x -> x.alike(1, 1), NO);
        refused("alike(0, 3)", x -> x.alike(0, 3), NO);
        refused("alike(3, 3)", x -> x.alike(3, 3), NO);
        refused("partner(1, 1, 0)", x -> x.partner(1, 1, 0), NO);
        refused("partner(3, 3, 0)", x -> x.partner(3, 3, 0), NO);
        refused("swell(1, 0, 0)", x -> x.swell(1, 0, 0), NO);
        refused("swell(0, 1, 0)", x -> x.swell(0, 1, 0), NO);
        refused("swell(2, 0, 0)", x -> x.swell(2, 0, 0), NO);
        refused("floor(0, 1)", x -> x.floor(0, 1), NO);
        refused("tight(1, 0)", x -> x.tight(1, 0), NO);
        refused("room(1)", x -> x.room(1), NONE);
        refused("room(0)", x -> x.room(0), NONE);
    }

    private static void badAheadOfFull() {
        Due.sentence("Of several the first in this order; nothing changes then.");
        int[] letters = {MIN, -1, 0, 31, 127, MAX};
        for (int letter : letters) {
            answersAndKeeps("write(" + letter + ") of 200", RefusalsTest::full, x -> x.write(letter), BAD);
        }
        for (int letter = 32; letter <= 126; letter++) {
            int written = letter;
            answersAndKeeps("write(" + letter + ") of 200", RefusalsTest::full, x -> x.write(written), FULL);
        }
    }

    private static void badAheadOfNo() {
        refused("becomeSums(4, 0, 0), above 40", x -> x.becomeSums(4, 0, 0), BAD);
        refused("becomeSums(-1, 0, 2), above 40", x -> x.becomeSums(-1, 0, 2), BAD);
        refused("move(4, 0, 9, 40), above 40", x -> x.move(4, 0, 9, 40), BAD);
        refused("move(1, 0, 10, 0), above 40", x -> x.move(1, 0, 10, 0), BAD);
        refused("move(1, 0, 1, 41), above 40", x -> x.move(1, 0, 1, 41), BAD);
        refused("move(1, 0, 1, -41), below 0", x -> x.move(1, 0, 1, -41), BAD);
        refused("shrink(4, 1, 0) of none", x -> x.shrink(4, 1, 0), BAD);
        refused("shrink(0, 1, 4) of none", x -> x.shrink(0, 1, 4), BAD);
        refused("shrink(0, -1, 1) by none", x -> x.shrink(0, -1, 1), BAD);
        refused("shrink(4, 2, 0) of 13", x -> x.shrink(4, 2, 0), BAD);
        refused("cover(1, 3) of none", x -> x.cover(1, 3), BAD);
        refused("grid(1, 5) of none", x -> x.grid(1, 5), BAD);
        refused("alike(1, 4) of none", x -> x.alike(1, 4), BAD);
        refused("alike(-1, 1) with none", x -> x.alike(-1, 1), BAD);
        refused("partner(1, 1, -1) of none", x -> x.partner(1, 1, -1), BAD);
        refused("partner(0, 2, -1) of unlike many", x -> x.partner(0, 2, -1), BAD);
        refused("partner(3, 3, -1) of 8", x -> x.partner(3, 3, -1), BAD);
        refused("swell(1, 0, 3) of none", x -> x.swell(1, 0, 3), BAD);
        refused("swell(0, 1, -1) by none", x -> x.swell(0, 1, -1), BAD);
        refused("swell(2, 0, 3) of 13", x -> x.swell(2, 0, 3), BAD);
        refused("floor(1, 4) of none", x -> x.floor(1, 4), BAD);
        refused("floor(-1, 1) with none", x -> x.floor(-1, 1), BAD);
        refused("tight(1, 4) of none", x -> x.tight(1, 4), BAD);
        refused("tight(-1, 1) with none", x -> x.tight(-1, 1), BAD);
    }

    private static void badAheadOfNone() {
        refused("member(4, 99)", x -> x.member(4, 99), BAD);
        refused("member(1, -2) of none", x -> x.member(1, -2), BAD);
        refused("sum(4, 0, 99)", x -> x.sum(4, 0, 99), BAD);
        refused("sum(0, -1, 99)", x -> x.sum(0, -1, 99), BAD);
        refused("sum(1, 1, -2) of none", x -> x.sum(1, 1, -2), BAD);
        refused("difference(4, 0, 99)", x -> x.difference(4, 0, 99), BAD);
        refused("difference(0, -1, 99)", x -> x.difference(0, -1, 99), BAD);
        refused("difference(1, 1, -2) of none", x -> x.difference(1, 1, -2), BAD);
        refused("partner(4, 0, 99)", x -> x.partner(4, 0, 99), BAD);
        refused("partner(0, -1, 99)", x -> x.partner(0, -1, 99), BAD);
        refused("smallest(9, 14, 9999)", x -> x.smallest(9, 14, 9999), BAD);
        refused("smallest(3, 15, 9999)", x -> x.smallest(3, 15, 9999), BAD);
        refused("smallest(1, 1, 9999)", x -> x.smallest(1, 1, 9999), BAD);
    }

    private static void noAheadOfNone() {
        refused("partner(0, 2, 99) of unlike many", x -> x.partner(0, 2, 99), NO);
        refused("partner(0, 1, 99) with none", x -> x.partner(0, 1, 99), NO);
        refused("partner(1, 1, 0) of none", x -> x.partner(1, 1, 0), NO);
        refused("partner(2, 2, 13) of 13", x -> x.partner(2, 2, 13), NO);
        refused("partner(3, 3, 8) of 8", x -> x.partner(3, 3, 8), NO);
        refused("partner(3, 3, MAX) of 8", x -> x.partner(3, 3, MAX), NO);
    }

    private static void nothingUndone() {
        Due.sentence("UNDONE: how many more can be. NO.");
        answersAndKeeps("undo() of a new one", LittleSums::new, LittleSums::undo, NO);
        answersAndKeeps("undo() behind lay()", () -> Given.told("s0,1;s3,2,40;"), LittleSums::undo, NO);
        answersAndKeeps("undo() behind all undone", RefusalsTest::allUndone, LittleSums::undo, NO);
    }

    private static LittleSums allUndone() {
        LittleSums x = busy();
        for (int left = 5; left >= 0; left--) {
            Due.is("undo()", x.undo(), left);
        }
        return x;
    }

    private static void faultNotLaid() {
        Due.sentence("LAID: how many SLOTS have a number. NO.");
        answersAndKeeps("lay() of a FAULT", RefusalsTest::faulty, LittleSums::lay, NO);
        answersAndKeeps("fault()", RefusalsTest::faulty, LittleSums::fault, 10);
        answersAndKeeps("fault() of 200", RefusalsTest::full, LittleSums::fault, NONE);
    }

    private static void asked(String call, Call made) {
        LittleSums x = busy();
        Due.holds(call + " is no refusal", made.on(x) >= 0);
        keeps(call, RefusalsTest::busy, x);
    }

    private static void askingChangesNothing() {
        Due.sentence("What is asked is told of SLOTS as they are then;");
        asked("member(0, 2)", x -> x.member(0, 2));
        asked("sum(0, 2, 3)", x -> x.sum(0, 2, 3));
        asked("difference(0, 2, 3)", x -> x.difference(0, 2, 3));
        asked("times(2, 6)", x -> x.times(2, 6));
        asked("ways(0, 2, 5)", x -> x.ways(0, 2, 5));
        asked("energy(2)", x -> x.energy(2));
        asked("cover(3, 1)", x -> x.cover(3, 1));
        asked("grid(3, 1)", x -> x.grid(3, 1));
        asked("alike(0, 0)", x -> x.alike(0, 0));
        asked("partner(0, 0, 1)", x -> x.partner(0, 0, 1));
        asked("swell(0, 2, 2)", x -> x.swell(0, 2, 2));
        asked("floor(0, 2)", x -> x.floor(0, 2));
        asked("tight(0, 2)", x -> x.tight(0, 2));
        asked("room(2)", x -> x.room(2));
        asked("smallest(8, 13, 0)", x -> x.smallest(8, 13, 0));
        asked("count(3)", x -> x.count(3));
    }
}
