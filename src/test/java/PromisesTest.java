/** For each promise of the document at least one call that would answer otherwise were it broken. */
public final class PromisesTest {
    private static final int BAD = -1, NO = -2, FULL = -3, NONE = -4;
    private static final int[] FAR = {Integer.MIN_VALUE, Integer.MAX_VALUE, -1000, 1000};

    private PromisesTest() {
    }

    public static void main(String[] args) {
        promise1NewObject();
        promise2Write();
        promise3Wipe();
        promise4Fault();
        promise4FaultInNumbers();
        promise5Lay();
        promise6Put();
        promise7Take();
        promise8BecomeSums();
        promise9Move();
        promise10Shrink();
        promise11Undo();
        promise11UndoOfEveryChange();
        promise11UndoBehindMoreThanSix();
        promise12Member();
        promise13Sum();
        promise14Difference();
        promise15Times();
        promise16Ways();
        promise17Energy();
        promise18Cover();
        promise19Grid();
        promise20Alike();
        promise21Partner();
        promise22Swell();
        promise23Floor();
        promise24Tight();
        promise25Room();
        promise26Smallest();
        promise27Count();
        askingChangesNothing();
        farNumbersAreBad();
        Due.end();
    }

    private static void faultOf(String text, int want) {
        Due.is("fault() of " + text, Given.written(text).fault(), want);
        if (want != NONE) {
            LittleSums x = Given.written(text);
            Due.is("lay() of " + text, x.lay(), NO);
            Given.firstSlots("behind lay() of " + text, x);
        }
    }

    private static void promise1NewObject() {
        LittleSums x = new LittleSums();
        Given.firstSlots("new", x);
        Due.is("count(5)", x.count(5), 0);
        Due.is("count(4)", x.count(4), 0);
        Due.is("fault()", x.fault(), NONE);
        Due.is("undo()", x.undo(), NO);
        x.take(0, 0);
        Given.firstSlots("another new one", new LittleSums());
    }

    private static void promise2Write() {
        LittleSums x = new LittleSums();
        Due.is("write(31)", x.write(31), BAD);
        Due.is("write(127)", x.write(127), BAD);
        Due.is("write(32)", x.write(32), 1);
        Due.is("write(126)", x.write(126), 2);
        for (int i = 3; i <= 200; i++) {
            Due.is("write(59)", x.write(59), i);
        }
        Due.is("write(59), the 201st", x.write(59), FULL);
        Due.is("write(127), the 201st", x.write(127), BAD);
        Due.is("write(0), the 201st", x.write(0), BAD);
        Due.is("count(5)", x.count(5), 200);
    }

    private static void promise3Wipe() {
        LittleSums x = Given.written("x;");
        Due.is("wipe()", x.wipe(), 2);
        Due.is("count(5)", x.count(5), 0);
        Due.is("fault()", x.fault(), NONE);
        Due.is("wipe() again", x.wipe(), 0);
        Due.is("write(115)", x.write(115), 1);
        Given.firstSlots("behind wipe()", x);
    }

    private static void promise4Fault() {
        faultOf("", NONE);
        faultOf("s0,0;", NONE);
        faultOf("e3;", NONE);
        faultOf("s3,40;e3;s3,1;", NONE);
        faultOf(";", 0);
        faultOf("e0;;", 3);
        faultOf("e0", 0);
        faultOf("e0;s", 3);
        faultOf("e0;s1", 3);
        faultOf("e0;s1,", 3);
        faultOf("e0;s1,2", 3);
        faultOf("e0;s1;", 3);
        faultOf("e0;s1,;", 3);
        faultOf("e0;e;", 3);
        faultOf("e4;", 0);
        faultOf("s4,1;", 0);
        faultOf("e0,1;", 0);
        faultOf("s0,1;x0;", 5);
        faultOf("S0,1;", 0);
        faultOf(" s0,1;", 0);
        faultOf("s0, 1;", 0);
        faultOf("s0,1 ;", 0);
        faultOf("e0;x;y;", 3);
    }

    private static void promise4FaultInNumbers() {
        faultOf("s0,41;", 0);
        faultOf("s0,40;", NONE);
        faultOf("s0,99;", 0);
        faultOf("s0,100;", 0);
        faultOf("s0,007;", 0);
        faultOf("s0,07,8;", NONE);
        faultOf("s0,-1;", 0);
        faultOf("s0,A;", 0);
        faultOf("s0,1:;", 0);
        faultOf("s0,/;", 0);
        faultOf("s1,1;s:,1;", 5);
        faultOf("s0,1,1;", 0);
        faultOf("s0,1,2,2;", 0);
        faultOf("s0,2,1;", 0);
        faultOf("s0,1,,2;", 0);
        faultOf("s0,1,;", 0);
        faultOf("s01,5;", NONE);
        faultOf("e03;", NONE);
        faultOf("e04;", 0);
        faultOf("e30;", 0);
        faultOf("e000;", 0);
        Given.slotIs("two figures", Given.told("s01,05,06;"), 1, 5, 6);
    }

    private static void promise5Lay() {
        LittleSums x = Given.written("s1,3,7;s3,1;s1,40;e3;s3,0,2;");
        x.put(0, 30);
        Due.is("lay()", x.lay(), 2);
        Given.slotIs("laid", x, 0);
        Given.slotIs("laid", x, 1, 40);
        Given.slotIs("laid", x, 2);
        Given.slotIs("laid", x, 3, 0, 2);
        Due.is("count(5) behind lay()", x.count(5), 28);
        Due.is("undo() behind lay()", x.undo(), NO);
        x.put(0, 1);
        Due.is("lay() again", x.lay(), 2);
        Given.slotIs("laid again", x, 0);
        x.put(0, 1);
        x.write('x');
        Due.is("lay() of a FAULT", x.lay(), NO);
        Given.slotIs("behind NO", x, 0, 1);
        Due.is("undo() behind NO", x.undo(), 0);
        StringBuilder all = new StringBuilder("s2");
        for (int v = 0; v <= 40; v++) {
            all.append(',').append(v);
        }
        Due.is("count(2) of all 41", Given.told(all.append(';').toString()).count(2), 41);
        Due.is("lay() of none", new LittleSums().lay(), 0);
        LittleSums full = Given.told("e0;".repeat(64) + "s1,7,30;");
        Due.is("count(5) of a full TEXT", full.count(5), 200);
        Given.slotIs("laid from a full TEXT", full, 1, 7, 30);
        faultOf("e0;".repeat(66) + "e0", 198);
        Due.is("lay() of one that became none", Given.written("s0,1;e0;").lay(), 0);
    }

    private static void promise6Put() {
        LittleSums x = new LittleSums();
        Due.is("put(0, 40)", x.put(0, 40), 5);
        Due.is("put(0, 3)", x.put(0, 3), 6);
        Given.slotIs("put", x, 0, 0, 1, 2, 3, 5, 40);
        Due.is("put(0, 3) again", x.put(0, 3), NO);
        Due.is("put(0, 41)", x.put(0, 41), BAD);
        Due.is("put(0, -1)", x.put(0, -1), BAD);
        Due.is("put(-1, 3)", x.put(-1, 3), BAD);
        Due.is("put(4, 3)", x.put(4, 3), BAD);
        Due.is("put(0, 67)", x.put(0, 67), BAD);
        Due.is("count(4)", x.count(4), 2);
    }

    private static void promise7Take() {
        LittleSums x = new LittleSums();
        Due.is("take(1, 4)", x.take(1, 4), 3);
        Given.slotIs("taken", x, 1, 0, 1, 5);
        Due.is("take(1, 4) again", x.take(1, 4), NO);
        Due.is("take(1, 41)", x.take(1, 41), BAD);
        Due.is("take(1, -1)", x.take(1, -1), BAD);
        Due.is("take(-1, 0)", x.take(-1, 0), BAD);
        Due.is("take(4, 0)", x.take(4, 0), BAD);
        Due.is("count(4)", x.count(4), 1);
        x.take(1, 0);
        x.take(1, 1);
        Due.is("take(1, 5)", x.take(1, 5), 0);
        Given.slotIs("all taken", x, 1);
    }

    private static void promise8BecomeSums() {
        LittleSums x = new LittleSums();
        Due.is("becomeSums(1, 0, 2)", x.becomeSums(1, 0, 2), 16);
        Given.slotIs("became", x, 1, 0, 1, 2, 3, 4, 5, 6, 7, 8, 9, 10, 11, 12, 13, 14, 17);
        Given.slotIs("added", x, 0, 0, 1, 2, 5);
        x = Given.told("s0,20,40;s1,0;s2,1;");
        Due.is("becomeSums(0, 0, 2), 41", x.becomeSums(0, 0, 2), NO);
        Due.is("becomeSums(0, 0, 0), 80", x.becomeSums(0, 0, 0), NO);
        Given.slotIs("behind NO", x, 0, 20, 40);
        Due.is("count(4) behind NO", x.count(4), 0);
        Due.is("becomeSums(2, 0, 1), 40", x.becomeSums(2, 0, 1), 2);
        Given.slotIs("became", x, 2, 20, 40);
        Due.is("becomeSums(2, 0, 3) with none", x.becomeSums(2, 0, 3), 0);
        Given.slotIs("became none", x, 2);
        Due.is("becomeSums(0, 3, 0) with none", x.becomeSums(0, 3, 0), 0);
        Due.is("becomeSums(-1, 0, 0)", x.becomeSums(-1, 0, 0), BAD);
        Due.is("becomeSums(0, 4, 0)", x.becomeSums(0, 4, 0), BAD);
        Due.is("becomeSums(0, 0, 4)", x.becomeSums(0, 0, 4), BAD);
        Due.is("becomeSums(4, 0, 0) with sums above 40", Given.told("s0,40;").becomeSums(4, 0, 0), BAD);
        x = Given.told("s0,1,3;");
        Due.is("becomeSums(0, 0, 0) of itself", x.becomeSums(0, 0, 0), 3);
        Given.slotIs("became SUMS of itself", x, 0, 2, 4, 6);
    }

    private static void promise9Move() {
        LittleSums x = new LittleSums();
        Due.is("move(0, 1, 7, 5)", x.move(0, 1, 7, 5), 4);
        Given.slotIs("moved", x, 0, 5, 12, 33, 40);
        Due.is("move(0, 0, 1, -5) of itself", x.move(0, 0, 1, -5), 4);
        Given.slotIs("moved", x, 0, 0, 7, 28, 35);
        Due.is("move(0, 0, 1, 6), 41", x.move(0, 0, 1, 6), NO);
        Due.is("move(0, 0, 1, -1), below 0", x.move(0, 0, 1, -1), NO);
        Due.is("move(1, 1, 9, -5), 40 but below 0", x.move(1, 1, 9, -5), NO);
        Given.slotIs("behind NO", x, 0, 0, 7, 28, 35);
        Due.is("count(4)", x.count(4), 2);
        Due.is("move(0, 1, 0, 0)", x.move(0, 1, 0, 0), BAD);
        Due.is("move(0, 1, 10, 0)", x.move(0, 1, 10, 0), BAD);
        Due.is("move(0, 1, 1, -41)", x.move(0, 1, 1, -41), BAD);
        Due.is("move(0, 1, 1, 41)", x.move(0, 1, 1, 41), BAD);
        Due.is("move(4, 1, 1, 0)", x.move(4, 1, 1, 0), BAD);
        Due.is("move(0, -1, 1, 0)", x.move(0, -1, 1, 0), BAD);
        x = Given.told("s0,0;s1,40;s2,4,5;");
        Due.is("move(0, 0, 9, 40)", x.move(0, 0, 9, 40), 1);
        Given.slotIs("moved", x, 0, 40);
        Due.is("move(1, 1, 1, -40)", x.move(1, 1, 1, -40), 1);
        Given.slotIs("moved", x, 1, 0);
        Due.is("move(2, 2, 9, -36)", x.move(2, 2, 9, -36), 2);
        Given.slotIs("moved", x, 2, 0, 9);
        Due.is("move(2, 3, 9, 40) of none", x.move(2, 3, 9, 40), 0);
        Given.slotIs("moved none", x, 2);
    }

    private static void promise10Shrink() {
        LittleSums x = new LittleSums();
        Due.is("shrink(1, 0, 2)", x.shrink(1, 0, 2), 2);
        Given.slotIs("shrunk", x, 1, 2, 5);
        Given.slotIs("what it is a part of", x, 0, 0, 1, 2, 5);
        Due.is("shrink(0, 0, 2) of itself", x.shrink(0, 0, 2), 2);
        Given.slotIs("shrunk", x, 0, 2, 5);
        Due.is("shrink(-1, 0, 2)", x.shrink(-1, 0, 2), BAD);
        Due.is("shrink(0, 4, 2)", x.shrink(0, 4, 2), BAD);
        Due.is("shrink(0, 0, 4)", x.shrink(0, 0, 4), BAD);
        x = Given.told("s0,1,2,3,4,5,6,7,8,9,10,11,12,13;s1,5;");
        Due.is("shrink(2, 0, 1) of 13", x.shrink(2, 0, 1), NO);
        Due.is("shrink(2, 1, 0) by 13", x.shrink(2, 1, 0), 1);
        Due.is("shrink(3, 3, 0) of none", x.shrink(3, 3, 0), NO);
        Due.is("shrink(3, 1, 3) by none", x.shrink(3, 1, 3), NO);
        Due.is("shrink(3, 1, 1) of a SLOT that has none before", x.shrink(3, 1, 1), 1);
        x.take(0, 13);
        Due.is("shrink(2, 0, 1) of 12", x.shrink(2, 0, 1), 12);
        Given.slotIs("shrunk", x, 2, 1, 2, 3, 4, 5, 6, 7, 8, 9, 10, 11, 12);
    }

    private static void promise11Undo() {
        LittleSums x = new LittleSums();
        Due.is("undo() at first", x.undo(), NO);
        for (int v = 30; v < 38; v++) {
            x.put(0, v);
        }
        Due.is("count(4) behind 8 changes", x.count(4), 6);
        x.put(0, 30);
        x.put(0, 99);
        Due.is("count(4) behind NO and BAD", x.count(4), 6);
        for (int left = 5; left >= 0; left--) {
            Due.is("undo()", x.undo(), left);
            Due.is("count(0) behind undo()", x.count(0), 6 + left);
        }
        Due.is("undo() the 7th", x.undo(), NO);
        Given.slotIs("undone", x, 0, 0, 1, 2, 5, 30, 31);
        x.put(0, 3);
        Due.is("undo() of a change behind undo()", x.undo(), 0);
        Given.slotIs("undone", x, 0, 0, 1, 2, 5, 30, 31);
    }

    private static void promise11UndoOfEveryChange() {
        LittleSums x = new LittleSums();
        x.put(0, 9);
        x.take(1, 0);
        x.becomeSums(2, 1, 1);
        x.move(3, 0, 2, 1);
        x.shrink(1, 2, 0);
        x.move(3, 3, 1, 0);
        Due.is("count(4), with one by which nothing becomes another", x.count(4), 6);
        for (int left = 5; left >= 0; left--) {
            Due.is("undo()", x.undo(), left);
        }
        Given.firstSlots("all undone", x);
    }

    private static void promise11UndoBehindMoreThanSix() {
        LittleSums x = new LittleSums();
        int[] order = {3, 0, 1, 2, 2, 1, 0, 3};
        for (int i = 0; i < order.length; i++) {
            x.put(order[i], 30 + i);
        }
        for (int left = 5; left >= 0; left--) {
            Due.is("undo()", x.undo(), left);
        }
        Due.is("undo()", x.undo(), NO);
        Given.slotIs("undone", x, 0, 0, 1, 2, 5, 31);
        Given.slotIs("undone", x, 1, 0, 1, 4, 5);
        Given.slotIs("undone", x, 2, 0, 3, 6, 9, 12);
        Given.slotIs("undone", x, 3, 0, 1, 10, 11, 20, 21, 30);
    }

    private static void promise12Member() {
        LittleSums x = Given.told("s0,0,40;");
        Due.is("member(0, -1)", x.member(0, -1), 2);
        Due.is("member(0, 0)", x.member(0, 0), 0);
        Due.is("member(0, 1)", x.member(0, 1), 40);
        Due.is("member(0, 2)", x.member(0, 2), NONE);
        Due.is("member(0, -2)", x.member(0, -2), BAD);
        Due.is("member(-1, 0)", x.member(-1, 0), BAD);
        Due.is("member(4, 0)", x.member(4, 0), BAD);
        Due.is("member(1, -1)", x.member(1, -1), 0);
        Due.is("member(1, 0)", x.member(1, 0), NONE);
    }

    private static void promise13Sum() {
        LittleSums x = Given.told("s0,0,1,40;s1,0,39,40;");
        int[] all = {0, 1, 39, 40, 41, 79, 80};
        Due.is("sum(0, 1, -1)", x.sum(0, 1, -1), all.length);
        for (int i = 0; i < all.length; i++) {
            Due.is("sum(0, 1, " + i + ")", x.sum(0, 1, i), all[i]);
        }
        Due.is("sum(0, 1, 7)", x.sum(0, 1, 7), NONE);
        Due.is("sum(0, 1, -2)", x.sum(0, 1, -2), BAD);
        Due.is("sum(-1, 1, 0)", x.sum(-1, 1, 0), BAD);
        Due.is("sum(0, 4, 0)", x.sum(0, 4, 0), BAD);
        Due.is("sum(0, 2, -1)", x.sum(0, 2, -1), 0);
        Due.is("sum(2, 0, 0)", x.sum(2, 0, 0), NONE);
        x = Given.told("s0,24;s1,39,40;");
        Due.is("sum(0, 1, 0) on 63", x.sum(0, 1, 0), 63);
        Due.is("sum(0, 1, 1) on 64", x.sum(0, 1, 1), 64);
    }

    private static void promise14Difference() {
        LittleSums x = Given.told("s0,0,1,40;s1,0,39,40;");
        int[] all = {0, 1, 2, 40, 41, 80};
        Due.is("difference(0, 1, -1)", x.difference(0, 1, -1), all.length);
        for (int i = 0; i < all.length; i++) {
            Due.is("difference(0, 1, " + i + ")", x.difference(0, 1, i), all[i]);
        }
        Due.is("difference(1, 0, 2)", x.difference(1, 0, 2), 40);
        Due.is("difference(1, 0, 3)", x.difference(1, 0, 3), 78);
        Due.is("difference(0, 1, 6)", x.difference(0, 1, 6), NONE);
        Due.is("difference(0, 1, -2)", x.difference(0, 1, -2), BAD);
        Due.is("difference(4, 1, 0)", x.difference(4, 1, 0), BAD);
        Due.is("difference(0, -1, 0)", x.difference(0, -1, 0), BAD);
        Due.is("difference(0, 2, -1)", x.difference(0, 2, -1), 0);
        Due.is("difference(2, 0, 0)", x.difference(2, 0, 0), NONE);
    }

    private static void promise15Times() {
        LittleSums x = Given.told("s0,0,40;s1,40;s2,0,1,40;");
        for (int n = 1; n <= 6; n++) {
            Due.is("times(0, " + n + ")", x.times(0, n), n + 1);
            Due.is("times(1, " + n + ")", x.times(1, n), 1);
            Due.is("times(2, " + n + ")", x.times(2, n), (n + 1) * (n + 2) / 2);
            Due.is("times(3, " + n + ")", x.times(3, n), 0);
        }
        Due.is("times(0, 0)", x.times(0, 0), BAD);
        Due.is("times(0, 7)", x.times(0, 7), BAD);
        Due.is("times(-1, 1)", x.times(-1, 1), BAD);
        Due.is("times(4, 1)", x.times(4, 1), BAD);
    }

    private static void promise16Ways() {
        LittleSums x = Given.told("s0,0,1,2,40;s1,0,1,38,40;");
        Due.is("ways(0, 1, 0)", x.ways(0, 1, 0), 1);
        Due.is("ways(0, 1, 1)", x.ways(0, 1, 1), 2);
        Due.is("ways(0, 1, 40)", x.ways(0, 1, 40), 3);
        Due.is("ways(0, 1, 41)", x.ways(0, 1, 41), 2);
        Due.is("ways(0, 1, 80)", x.ways(0, 1, 80), 1);
        Due.is("ways(0, 0, 2)", x.ways(0, 0, 2), 3);
        Due.is("ways(0, 1, 79)", x.ways(0, 1, 79), 0);
        Due.is("ways(0, 2, 0)", x.ways(0, 2, 0), 0);
        Due.is("ways(0, 1, -1)", x.ways(0, 1, -1), BAD);
        Due.is("ways(0, 1, 81)", x.ways(0, 1, 81), BAD);
        Due.is("ways(4, 1, 0)", x.ways(4, 1, 0), BAD);
        Due.is("ways(0, -1, 0)", x.ways(0, -1, 0), BAD);
    }

    private static void promise17Energy() {
        LittleSums x = Given.told("s0,7;s1,0,40;s2,0,1,2;");
        Due.is("energy(0)", x.energy(0), 1);
        Due.is("energy(1)", x.energy(1), 6);
        Due.is("energy(2)", x.energy(2), 19);
        Due.is("energy(3)", x.energy(3), 0);
        Due.is("energy(-1)", x.energy(-1), BAD);
        Due.is("energy(4)", x.energy(4), BAD);
        for (int v = 0; v <= 40; v++) {
            x.put(3, v);
        }
        Due.is("energy(3) of all 41", x.energy(3), (2 * 41 * 41 * 41 + 41) / 3);
    }

    private static void coverIs(LittleSums x, int k, int b, int d, int n) {
        Due.is("cover(" + k + ", 0)", x.cover(k, 0), b);
        Due.is("cover(" + k + ", 1)", x.cover(k, 1), d);
        Due.is("cover(" + k + ", 2)", x.cover(k, 2), n);
    }

    private static void promise18Cover() {
        LittleSums x = Given.told("s0,4,10,22;s1,1,4,8;s2,0,40;");
        coverIs(x, 0, 4, 6, 4);
        coverIs(x, 1, 1, 1, 8);
        coverIs(x, 2, 0, 40, 2);
        Due.is("cover(3, 0) of none", x.cover(3, 0), NO);
        Due.is("cover(3, 3) of none", x.cover(3, 3), BAD);
        Due.is("cover(0, 3)", x.cover(0, 3), BAD);
        Due.is("cover(0, -1)", x.cover(0, -1), BAD);
        Due.is("cover(4, 0)", x.cover(4, 0), BAD);
        Due.is("cover(-1, 0)", x.cover(-1, 0), BAD);
        x.put(3, 9);
        coverIs(x, 3, 9, 1, 1);
    }

    private static void gridIs(String set, int... best) {
        LittleSums x = Given.told("s1," + set + ";");
        for (int what = 0; what < 5; what++) {
            Due.is("grid(1, " + what + ") of " + set, x.grid(1, what), best[what]);
        }
    }

    private static void promise19Grid() {
        gridIs("40", 40, 1, 2, 2, 2);
        gridIs("0,40", 0, 1, 39, 2, 2);
        gridIs("0,1,2,3", 0, 1, 2, 2, 2);
        gridIs("0,1,2,3,4", 0, 1, 2, 2, 3);
        gridIs("5,8,11,25,28,31", 5, 3, 20, 3, 2);
        gridIs("3,4,5,20,21,22,37,38,39", 3, 1, 17, 3, 3);
        // of the area 12, d 2, e 5 there is one with m 6, too
        gridIs("4,6,8,9,13,19", 4, 2, 5, 3, 4);
        // d 2, e 3, m 4, n 3 would tell 8 twice
        gridIs("2,4,6,7,8,9,14", 2, 2, 5, 4, 3);
        gridIs("0,9,11,12,14,16,18,19,27,28,33", 0, 3, 8, 7, 4);
        LittleSums x = new LittleSums();
        Due.is("grid(0, -1)", x.grid(0, -1), BAD);
        Due.is("grid(0, 5)", x.grid(0, 5), BAD);
        Due.is("grid(-1, 0)", x.grid(-1, 0), BAD);
        Due.is("grid(4, 0)", x.grid(4, 0), BAD);
        x.lay();
        Due.is("grid(0, 0) of none", x.grid(0, 0), NO);
        Due.is("grid(0, 5) of none", x.grid(0, 5), BAD);
        for (int v = 0; v <= 40; v++) {
            x.put(0, v);
        }
        Due.is("grid(0, 1) of all 41", x.grid(0, 1), 1);
        Due.is("grid(0, 2) of all 41", x.grid(0, 2), 2);
        Due.is("grid(0, 3) of all 41", x.grid(0, 3), 2);
        Due.is("grid(0, 4) of all 41", x.grid(0, 4), 21);
        x.take(0, 0);
        Due.is("grid(0, 0) of another SET", x.grid(0, 0), 1);
        Due.is("grid(0, 4) of another SET", x.grid(0, 4), 20);
    }

    private static void promise20Alike() {
        LittleSums x = Given.told("s0,0,1,3,9;s1,0,8,11,12;s2,0,1,2,3;s3,0,1,5,6;");
        Due.is("alike(0, 1), neither has sums in common", x.alike(0, 1), 1);
        Due.is("alike(0, 2)", x.alike(0, 2), 0);
        Due.is("alike(2, 0)", x.alike(2, 0), 0);
        Due.is("alike(2, 3)", x.alike(2, 3), 0);
        Due.is("alike(3, 2)", x.alike(3, 2), 0);
        Due.is("alike(3, 3)", x.alike(3, 3), 1);
        Due.is("alike(0, 1) of 1", Given.told("s0,7;s1,30;").alike(0, 1), 1);
        Due.is("alike(0, 1) of 3 that differ by like ones", Given.told("s0,0,1,2;s1,0,1,3;").alike(0, 1), 0);
        Due.is("alike(0, 1) of 3 that differ by like ones", Given.told("s0,0,1,3;s1,0,1,2;").alike(0, 1), 0);
        Due.is("alike(-1, 0)", x.alike(-1, 0), BAD);
        Due.is("alike(0, 4)", x.alike(0, 4), BAD);
        x = Given.told("s0,0,1,2,3,4,5,6;s1,4,10,16,22,28,34,40;");
        Due.is("alike(0, 1) of 7", x.alike(0, 1), 1);
        Due.is("alike(0, 2) of unlike many", x.alike(0, 2), NO);
        Due.is("alike(2, 3) of none", x.alike(2, 3), NO);
        x.put(0, 7);
        Due.is("alike(0, 1) of 8 and 7", x.alike(0, 1), NO);
        x.put(1, 0);
        Due.is("alike(0, 1) of 8", x.alike(0, 1), NO);
        Due.is("alike(0, 0) of 8", x.alike(0, 0), NO);
    }

    private static void promise21Partner() {
        LittleSums x = Given.told("s0,0,1,4;s1,10,37,40;s2,0,1,2,3;s3,5,7,9,11;");
        int[] mirrored = {10, 37, 40};
        for (int i = 0; i < 3; i++) {
            Due.is("partner(0, 1, " + i + ")", x.partner(0, 1, i), mirrored[i]);
            Due.is("partner(2, 3, " + i + ")", x.partner(2, 3, i), 5 + 2 * i);
        }
        Due.is("partner(0, 1, 3)", x.partner(0, 1, 3), NONE);
        Due.is("partner(0, 2, 0) of unlike many", x.partner(0, 2, 0), NO);
        Due.is("partner(0, 2, 9) of unlike many", x.partner(0, 2, 9), NO);
        Due.is("partner(0, 2, -1)", x.partner(0, 2, -1), BAD);
        Due.is("partner(0, 1, -1)", x.partner(0, 1, -1), BAD);
        Due.is("partner(4, 1, 0)", x.partner(4, 1, 0), BAD);
        Due.is("partner(0, -1, 0)", x.partner(0, -1, 0), BAD);
        x = Given.told("s0,0,1,2,10;s1,0,8,9,10;s2,0,1,3,9;");
        int[] turned = {8, 9, 10, 0};
        for (int i = 0; i < 4; i++) {
            Due.is("partner(0, 1, " + i + ")", x.partner(0, 1, i), turned[i]);
        }
        Due.is("partner(0, 2, 0) of SLOTS that are not ALIKE", x.partner(0, 2, 0), NONE);
        Due.is("partner(3, 3, 0) of none", x.partner(3, 3, 0), NO);
    }

    private static void swellIs(LittleSums x, int a, int b, int sums, int numbers, int part) {
        String call = "swell(" + a + ", " + b + ", ";
        Due.is(call + "0)", x.swell(a, b, 0), sums);
        Due.is(call + "1)", x.swell(a, b, 1), numbers);
        Due.is(call + "2)", x.swell(a, b, 2), part);
    }

    private static void promise22Swell() {
        LittleSums x = Given.told("s0,0,1,10,11;s1,0,1;s2,3,20,40;s3,0,1,2;");
        swellIs(x, 0, 1, 3, 2, 15);
        swellIs(x, 2, 1, 2, 1, 7);
        swellIs(x, 3, 1, 4, 3, 7);
        swellIs(x, 0, 2, 3, 1, 15);
        x.put(3, 4);
        x.put(3, 30);
        swellIs(x, 3, 1, 4, 3, 7);
        x.put(3, 31);
        x.put(3, 32);
        swellIs(x, 3, 1, 4, 3, 0b1110111);
        x = Given.told("s0,0,2,3,20,22,23;s1,0,1;s2,0,1,2,3,4,5,6,7,8,9,10,11,12;");
        swellIs(x, 0, 1, 3, 2, 0b110110);
        Due.is("swell(2, 1, 0) of 13", x.swell(2, 1, 0), NO);
        swellIs(x, 1, 2, 7, 1, 3);
        Due.is("swell(3, 1, 0) of none", x.swell(3, 1, 0), NO);
        Due.is("swell(1, 3, 0) by none", x.swell(1, 3, 0), NO);
        Due.is("swell(0, 1, 3)", x.swell(0, 1, 3), BAD);
        Due.is("swell(3, 1, 3)", x.swell(3, 1, 3), BAD);
        Due.is("swell(0, 1, -1)", x.swell(0, 1, -1), BAD);
        Due.is("swell(4, 1, 0)", x.swell(4, 1, 0), BAD);
        Due.is("swell(0, -1, 0)", x.swell(0, -1, 0), BAD);
        x.take(2, 12);
        swellIs(x, 2, 1, 13, 12, 4095);
        x = Given.told("s0,0,38,39,40;s1,38,39,40;s2,30,39,40;");
        swellIs(x, 0, 1, 5, 3, 0b1110);
        swellIs(x, 0, 2, 7, 3, 0b1110);
        x.take(1, 38);
        swellIs(x, 0, 1, 4, 3, 0b1110);
    }

    private static void promise23Floor() {
        LittleSums x = new LittleSums();
        Due.is("floor(0, 3)", x.floor(0, 3), 9);
        Due.is("floor(2, 2)", x.floor(2, 2), 9);
        Due.is("floor(-1, 0)", x.floor(-1, 0), BAD);
        Due.is("floor(0, 4)", x.floor(0, 4), BAD);
        x = Given.told("s0,4;s1,3,9;");
        Due.is("floor(0, 0)", x.floor(0, 0), 1);
        Due.is("floor(0, 1)", x.floor(0, 1), 2);
        Due.is("floor(0, 2) of none", x.floor(0, 2), NO);
        Due.is("floor(2, 0) of none", x.floor(2, 0), NO);
    }

    private static void promise24Tight() {
        LittleSums x = Given.told("s0,1,4,7;s1,0,3;s2,0,2,4;");
        Due.is("tight(0, 1)", x.tight(0, 1), 1);
        Due.is("tight(1, 0)", x.tight(1, 0), 1);
        Due.is("tight(0, 0)", x.tight(0, 0), 1);
        Due.is("tight(0, 2)", x.tight(0, 2), 0);
        Due.is("tight(0, 3) of none", x.tight(0, 3), NO);
        Due.is("tight(3, 0) of none", x.tight(3, 0), NO);
        Due.is("tight(4, 0)", x.tight(4, 0), BAD);
        Due.is("tight(0, -1)", x.tight(0, -1), BAD);
        x.put(3, 6);
        Due.is("tight(0, 3) with one number", x.tight(0, 3), 0);
        Due.is("tight(3, 0) with one number", x.tight(3, 0), 0);
        Due.is("tight(3, 3) with one number", x.tight(3, 3), 0);
    }

    private static void promise25Room() {
        LittleSums x = Given.told("s0,1,5,9;s1,0,1,3;s2,0,1,2,4;s3,3,7;");
        Due.is("room(0)", x.room(0), 0);
        Due.is("room(1), 6 SUMS of 3", x.room(1), NONE);
        Due.is("room(2), 8 SUMS of 4", x.room(2), 0);
        Due.is("room(3) of 2", x.room(3), NONE);
        x.take(3, 3);
        x.take(3, 7);
        Due.is("room(3) of none", x.room(3), NONE);
        Due.is("room(-1)", x.room(-1), BAD);
        Due.is("room(4)", x.room(4), BAD);
        // {0, 1, 2, 3, 5, 6}: all of 0 to 12 are SUMS, and COVER has 7
        Due.is("room(0) with some left", Given.told("s0,0,1,2,3,5,6;").room(0), 13 - 6 + 1 - 7);
        // {0, 2, 3, 4, 5, 6, 8}: 0, 2 to 14 and 16 are SUMS, and COVER has 9
        Due.is("room(0)", Given.told("s0,0,2,3,4,5,6,8;").room(0), 15 - 7 + 1 - 9);
        // {0, 1, 2, 4, 5, 6} made 3 times as much: 13 SUMS, and COVER has 7
        Due.is("room(0), of d 3", Given.told("s0,2,5,8,14,17,20;").room(0), 13 - 6 + 1 - 7);
    }

    private static void promise26Smallest() {
        LittleSums x = new LittleSums();
        Due.is("smallest(1, 0, -1)", x.smallest(1, 0, -1), 1);
        Due.is("smallest(1, 0, -2)", x.smallest(1, 0, -2), 1);
        Due.is("smallest(1, 0, 0)", x.smallest(1, 0, 0), 1);
        Due.is("smallest(1, 0, 1)", x.smallest(1, 0, 1), NONE);
        Due.is("smallest(1, 1, 0)", x.smallest(1, 1, 0), BAD);
        Due.is("smallest(2, 14, -1)", x.smallest(2, 14, -1), 3);
        Due.is("smallest(2, 14, 0)", x.smallest(2, 14, 0), 1 | 1 << 14);
        Due.is("smallest(3, 5, -1)", x.smallest(3, 5, -1), 6);
        Due.is("smallest(3, 5, -2)", x.smallest(3, 5, -2), 4);
        for (int i = 0; i < 4; i++) {
            Due.is("smallest(3, 5, " + i + ")", x.smallest(3, 5, i), 0b100001 | 2 << i);
        }
        Due.is("smallest(3, 5, 4)", x.smallest(3, 5, 4), NONE);
        Due.is("smallest(3, 6, -1)", x.smallest(3, 6, -1), 5);
        Due.is("smallest(3, 6, 0)", x.smallest(3, 6, 0), 0b1001001);
        Due.is("smallest(8, 7, 0)", x.smallest(8, 7, 0), 255);
        Due.is("smallest(8, 14, 0)", x.smallest(8, 14, 0), 0b101010101010101);
        Due.is("smallest(0, 0, -1)", x.smallest(0, 0, -1), BAD);
        Due.is("smallest(9, 8, -1)", x.smallest(9, 8, -1), BAD);
        Due.is("smallest(8, 6, -1)", x.smallest(8, 6, -1), BAD);
        Due.is("smallest(2, 0, -1)", x.smallest(2, 0, -1), BAD);
        Due.is("smallest(2, 15, -1)", x.smallest(2, 15, -1), BAD);
        Due.is("smallest(2, 1, -3)", x.smallest(2, 1, -3), BAD);
        Due.is("smallest(1, -1, -1)", x.smallest(1, -1, -1), BAD);
    }

    private static void promise27Count() {
        LittleSums x = new LittleSums();
        int[] first = {4, 4, 5, 6, 0, 0, 4};
        for (int what = 0; what < 7; what++) {
            Due.is("count(" + what + ")", x.count(what), first[what]);
        }
        x = Given.written("s2,1,2,3;");
        x.take(0, 0);
        Due.is("count(0)", x.count(0), 3);
        Due.is("count(4)", x.count(4), 1);
        Due.is("count(5)", x.count(5), 9);
        x.lay();
        Due.is("count(2)", x.count(2), 3);
        Due.is("count(4)", x.count(4), 0);
        Due.is("count(6)", x.count(6), 1);
        Due.is("count(-1)", x.count(-1), BAD);
        Due.is("count(7)", x.count(7), BAD);
    }

    private static void askingChangesNothing() {
        LittleSums x = Given.written("x");
        for (int a = 0; a < 4; a++) {
            for (int b = 0; b < 4; b++) {
                x.sum(a, b, 0);
                x.difference(a, b, 0);
                x.times(a, 6);
                x.cover(a, 0);
                x.grid(a, 0);
                x.alike(a, b);
                x.swell(a, b, 0);
                x.tight(a, b);
                x.room(a);
            }
        }
        x.smallest(8, 13, 0);
        x.fault();
        Given.firstSlots("asked", x);
        Due.is("count(4)", x.count(4), 0);
        Due.is("count(5)", x.count(5), 1);
    }

    private static void farNumbersAreBad() {
        LittleSums x = new LittleSums();
        for (int far : FAR) {
            Due.is("write(" + far + ")", x.write(far), BAD);
            Due.is("put(0, " + far + ")", x.put(0, far), BAD);
            Due.is("take(" + far + ", 0)", x.take(far, 0), BAD);
            Due.is("becomeSums(" + far + ", 0, 0)", x.becomeSums(far, 0, 0), BAD);
            Due.is("move(0, 0, " + far + ", 0)", x.move(0, 0, far, 0), BAD);
            Due.is("move(0, 0, 1, " + far + ")", x.move(0, 0, 1, far), BAD);
            Due.is("shrink(0, " + far + ", 0)", x.shrink(0, far, 0), BAD);
            Due.is("member(0, " + far + ")", x.member(0, far), far < 0 ? BAD : NONE);
            Due.is("sum(0, 0, " + far + ")", x.sum(0, 0, far), far < 0 ? BAD : NONE);
            Due.is("difference(0, 0, " + far + ")", x.difference(0, 0, far), far < 0 ? BAD : NONE);
            Due.is("times(0, " + far + ")", x.times(0, far), BAD);
            Due.is("ways(0, 0, " + far + ")", x.ways(0, 0, far), BAD);
            Due.is("energy(" + far + ")", x.energy(far), BAD);
            Due.is("cover(0, " + far + ")", x.cover(0, far), BAD);
            Due.is("grid(0, " + far + ")", x.grid(0, far), BAD);
            Due.is("alike(0, " + far + ")", x.alike(0, far), BAD);
            Due.is("partner(0, 0, " + far + ")", x.partner(0, 0, far), far < 0 ? BAD : NONE);
            Due.is("swell(0, 0, " + far + ")", x.swell(0, 0, far), BAD);
            Due.is("floor(" + far + ", 0)", x.floor(far, 0), BAD);
            Due.is("tight(0, " + far + ")", x.tight(0, far), BAD);
            Due.is("room(" + far + ")", x.room(far), BAD);
            Due.is("smallest(" + far + ", 3, 0)", x.smallest(far, 3, 0), BAD);
            Due.is("smallest(3, " + far + ", 0)", x.smallest(3, far, 0), BAD);
            Due.is("smallest(3, 4, " + far + ")", x.smallest(3, 4, far), far < 0 ? BAD : NONE);
            Due.is("count(" + far + ")", x.count(far), BAD);
        }
        Given.firstSlots("behind BAD", x);
        Due.is("count(4) behind BAD", x.count(4), 0);
    }
}
