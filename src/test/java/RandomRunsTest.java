import java.util.Random;

/** Runs of calls, always the same ones, on LittleSums and on PlainSums side by side. */
public final class RandomRunsTest {
    private static final int RUNS = 120;
    private static final int CALLS = 512;

    private final Random random;
    private final LittleSums x = new LittleSums();
    private final PlainSums y = new PlainSums();
    private final String name;
    private int calls = 0;

    private RandomRunsTest(int run) {
        random = new Random(run);
        name = "run " + run + ", call ";
    }

    public static void main(String[] args) {
        for (int run = 0; run < RUNS; run++) {
            new RandomRunsTest(run).go();
        }
        Due.end();
    }

    private void go() {
        while (calls < CALLS) {
            int kind = random.nextInt(100);
            if (kind < 3) {
                tellText();
            } else if (kind < 40) {
                change();
            } else if (kind < 75) {
                askOfSums();
            } else {
                askOfShape();
            }
        }
    }

    private void due(String call, int got, int want) {
        calls++;
        Due.is(name + calls + ": " + call, got, want);
    }

    private int slot() {
        return random.nextInt(25) == 0 ? (random.nextBoolean() ? -1 : 4) : random.nextInt(4);
    }

    /** From least to most, and at times one below, one above, or far out. */
    private int between(int least, int most) {
        switch (random.nextInt(30)) {
            case 0:
                return least - 1;
            case 1:
                return most + 1;
            case 2:
                return random.nextInt();
            default:
                return least + random.nextInt(most - least + 1);
        }
    }

    private void tellText() {
        due("wipe()", x.wipe(), y.wipe());
        String text = text();
        for (int i = 0; i < text.length(); i++) {
            int letter = text.charAt(i);
            due("write(" + letter + ")", x.write(letter), y.write(letter));
        }
        due("fault() of " + text, x.fault(), y.fault());
        due("lay() of " + text, x.lay(), y.lay());
        askOfSlots();
    }

    private String text() {
        StringBuilder text = new StringBuilder();
        int items = random.nextInt(5);
        for (int i = 0; i < items; i++) {
            boolean none = random.nextInt(6) == 0;
            text.append(none ? 'e' : 's').append(random.nextInt(4));
            int v = random.nextInt(12);
            while (!none && v <= 40) {
                text.append(',').append(v < 10 && random.nextInt(9) == 0 ? "0" : "").append(v);
                v += 1 + random.nextInt(1 + random.nextInt(12));
                if (random.nextInt(9) == 0) {
                    v = 41;
                }
            }
            text.append(';');
        }
        if (text.length() > 0 && random.nextInt(3) == 0) {
            String letters = "se0123459,; x";
            text.setCharAt(random.nextInt(text.length()), letters.charAt(random.nextInt(letters.length())));
        }
        if (text.length() > 0 && random.nextInt(5) == 0) {
            text.deleteCharAt(random.nextInt(text.length()));
        }
        return text.toString();
    }

    private void askOfSlots() {
        for (int k = 0; k < 4; k++) {
            int size = y.count(k);
            for (int i = -1; i <= size; i++) {
                due("member(" + k + ", " + i + ")", x.member(k, i), y.member(k, i));
            }
        }
        for (int what = -1; what <= 7; what++) {
            due("count(" + what + ")", x.count(what), y.count(what));
        }
    }

    private void change() {
        int k = slot();
        int a = slot();
        int b = slot();
        int v = between(0, 40);
        switch (random.nextInt(12)) {
            case 0:
            case 1:
            case 2:
                due("put(" + k + ", " + v + ")", x.put(k, v), y.put(k, v));
                break;
            case 3:
            case 4:
                int inIt = random.nextInt(4) == 0 ? v : y.member(k, Math.max(0, random.nextInt(9)));
                due("take(" + k + ", " + inIt + ")", x.take(k, inIt), y.take(k, inIt));
                break;
            case 5:
                due("becomeSums(" + k + ", " + a + ", " + b + ")", x.becomeSums(k, a, b), y.becomeSums(k, a, b));
                break;
            case 6:
            case 7:
                int d = between(1, 1 + random.nextInt(9));
                int by = between(-40 / (1 + random.nextInt(20)), 40 / (1 + random.nextInt(20)));
                due("move(" + k + ", " + a + ", " + d + ", " + by + ")", x.move(k, a, d, by), y.move(k, a, d, by));
                break;
            case 8:
                due("shrink(" + k + ", " + a + ", " + b + ")", x.shrink(k, a, b), y.shrink(k, a, b));
                break;
            default:
                due("undo()", x.undo(), y.undo());
        }
        if (random.nextInt(8) == 0) {
            askOfSlots();
        }
    }

    private void askOfSums() {
        int a = slot();
        int b = slot();
        int i = between(-1, 50);
        switch (random.nextInt(6)) {
            case 0:
                due("sum(" + a + ", " + b + ", " + i + ")", x.sum(a, b, i), y.sum(a, b, i));
                break;
            case 1:
                due("difference(" + a + ", " + b + ", " + i + ")", x.difference(a, b, i), y.difference(a, b, i));
                break;
            case 2:
                int n = between(1, 6);
                due("times(" + a + ", " + n + ")", x.times(a, n), y.times(a, n));
                break;
            case 3:
                int v = between(0, 80);
                due("ways(" + a + ", " + b + ", " + v + ")", x.ways(a, b, v), y.ways(a, b, v));
                break;
            case 4:
                due("energy(" + a + ")", x.energy(a), y.energy(a));
                break;
            default:
                due("member(" + a + ", " + i + ")", x.member(a, i), y.member(a, i));
        }
    }

    private void askOfShape() {
        int a = slot();
        int b = slot();
        int what;
        switch (random.nextInt(9)) {
            case 0:
                what = between(0, 2);
                due("cover(" + a + ", " + what + ")", x.cover(a, what), y.cover(a, what));
                break;
            case 1:
                what = between(0, 4);
                due("grid(" + a + ", " + what + ")", x.grid(a, what), y.grid(a, what));
                break;
            case 2:
                due("alike(" + a + ", " + b + ")", x.alike(a, b), y.alike(a, b));
                break;
            case 3:
                what = between(0, 7);
                due("partner(" + a + ", " + b + ", " + what + ")", x.partner(a, b, what), y.partner(a, b, what));
                break;
            case 4:
                what = between(0, 2);
                due("swell(" + a + ", " + b + ", " + what + ")", x.swell(a, b, what), y.swell(a, b, what));
                break;
            case 5:
                due("floor(" + a + ", " + b + ")", x.floor(a, b), y.floor(a, b));
                break;
            case 6:
                due("tight(" + a + ", " + b + ")", x.tight(a, b), y.tight(a, b));
                break;
            case 7:
                due("room(" + a + ")", x.room(a), y.room(a));
                break;
            default:
                int n = between(1, 8);
                int l = between(0, 14);
                what = between(-2, 8);
                due("smallest(" + n + ", " + l + ", " + what + ")", x.smallest(n, l, what), y.smallest(n, l, what));
        }
    }
}
