import java.util.ArrayList;
import java.util.List;

/** Objects in a known state, and what calls show of it. */
final class Given {
    private static final int NONE = -4;

    private Given() {
    }

    /** A new object with this for THE TEXT. */
    static LittleSums written(String text) {
        LittleSums x = new LittleSums();
        write(x, text);
        Due.is("count(5) behind writing " + text, x.count(5), text.length());
        return x;
    }

    static void write(LittleSums x, String text) {
        for (int i = 0; i < text.length(); i++) {
            Due.holds("a letter of " + text + " is taken", x.write(text.charAt(i)) > 0);
        }
    }

    /** A new object that has LAID this. */
    static LittleSums told(String text) {
        LittleSums x = written(text);
        Due.holds("lay() of " + text, x.lay() >= 0);
        return x;
    }

    /** These numbers and all between them, a comma ahead of each. */
    static String upTo(int first, int last) {
        StringBuilder numbers = new StringBuilder();
        for (int v = first; v <= last; v++) {
            numbers.append(',').append(v);
        }
        return numbers.toString();
    }

    static void slotIs(String when, LittleSums x, int k, int... numbers) {
        String slot = when + ": SLOT " + k;
        Due.is(slot + " has so many", x.member(k, -1), numbers.length);
        for (int i = 0; i < numbers.length; i++) {
            Due.is(slot + ", number " + i, x.member(k, i), numbers[i]);
        }
        Due.is(slot + ", behind the last", x.member(k, numbers.length), NONE);
    }

    static void firstSlots(String when, LittleSums x) {
        slotIs(when, x, 0, 0, 1, 2, 5);
        slotIs(when, x, 1, 0, 1, 4, 5);
        slotIs(when, x, 2, 0, 3, 6, 9, 12);
        slotIs(when, x, 3, 0, 1, 10, 11, 20, 21);
    }

    static List<Integer> slots(LittleSums x) {
        List<Integer> all = new ArrayList<>();
        for (int k = 0; k < 4; k++) {
            int size = x.member(k, -1);
            all.add(size);
            for (int i = 0; i < size; i++) {
                all.add(x.member(k, i));
            }
        }
        return all;
    }

    /**
     * All that calls show of SLOTS, what can be UNDONE and THE TEXT. It undoes all and lays THE TEXT
     * to see them, so the object is of no use behind it.
     */
    static List<Integer> shown(LittleSums x) {
        List<Integer> all = slots(x);
        for (int what = 4; what <= 6; what++) {
            all.add(x.count(what));
        }
        all.add(x.fault());
        for (int i = 0; i < 7; i++) {
            all.add(x.undo());
            all.addAll(slots(x));
        }
        all.add(x.lay());
        all.addAll(slots(x));
        all.add(x.wipe());
        return all;
    }
}
