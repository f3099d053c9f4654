/** The sentences of the document that bound SETS, changes and what can be UNDONE, one by one. */
public final class ChangeBoundsTest {
    private static final int BAD = -1, NO = -2, NONE = -4;

    private ChangeBoundsTest() {
    }

    public static void main(String[] args) {
        numbersOfSet();
        eachOnce();
        setOfNone();
        setOfAll();
        oneSetEach();
        puts();
        takes();
        sumsUpToForty();
        sumsOfNone();
        movedUpToForty();
        movedBelowZero();
        movedByAllowedNumbers();
        movedNone();
        shrunkOfTwelve();
        shrunkOfNone();
        shrunkIntoItsOwn();
        lastSixUndone();
        undoneCounts();
        undoneOfNone();
        nothingBecomesAnother();
        behindLaidNoneUndone();
        refusedIsNoChange();
        fiveHundredTwelveCalls();
        Due.end();
    }

    private static void numbersOfSet() {
        Due.sentence("A SET has numbers 0 to 40, each once (it may have none).");
        for (int k = 0; k <= 3; k++) {
            LittleSums x = Given.told("");
            Due.is("put(" + k + ", 0)", x.put(k, 0), 1);
            Due.is("put(" + k + ", 40)", x.put(k, 40), 2);
            Due.is("put(" + k + ", -1)", x.put(k, -1), BAD);
            Due.is("put(" + k + ", 41)", x.put(k, 41), BAD);
            Due.is("put(" + k + ", 64)", x.put(k, 64), BAD);
            Due.is("take(" + k + ", -1)", x.take(k, -1), BAD);
            Due.is("take(" + k + ", 41)", x.take(k, 41), BAD);
            Due.is("take(" + k + ", 64)", x.take(k, 64), BAD);
            Given.slotIs("put", x, k, 0, 40);
            Due.is("take(" + k + ", 40)", x.take(k, 40), 1);
            Due.is("take(" + k + ", 0)", x.take(k, 0), 0);
        }
    }

    private static void eachOnce() {
        LittleSums x = Given.told("s0,4,6;");
        Due.is("put(0, 5)", x.put(0, 5), 3);
        Due.is("put(0, 5) again", x.put(0, 5), NO);
        Given.slotIs("each once", x, 0, 4, 5, 6);
        Due.is("becomeSums(1, 0, 0), 10 in three ways", x.becomeSums(1, 0, 0), 5);
        Given.slotIs("each sum once", x, 1, 8, 9, 10, 11, 12);
    }

    private static void setOfNone() {
        LittleSums x = Given.told("s1,17;");
        Due.is("take(1, 17), the only one", x.take(1, 17), 0);
        Given.slotIs("of none", x, 1);
        Due.is("count(1)", x.count(1), 0);
        Due.is("count(6)", x.count(6), 0);
        Due.is("take(1, 17) of none", x.take(1, 17), NO);
        Due.is("undo()", x.undo(), 0);
        Given.slotIs("undone", x, 1, 17);
    }

    private static void setOfAll() {
        LittleSums x = Given.told("");
        for (int v = 40; v >= 0; v--) {
            Due.is("put(2, " + v + ")", x.put(2, v), 41 - v);
        }
        for (int v = 0; v <= 40; v++) {
            Due.is("member(2, " + v + ") of all", x.member(2, v), v);
            Due.is("put(2, " + v + ") in all", x.put(2, v), NO);
        }
        Due.is("put(2, 41) in all", x.put(2, 41), BAD);
        Due.is("count(2) of all", x.count(2), 41);
        for (int v = 0; v <= 40; v++) {
            Due.is("take(2, " + v + ")", x.take(2, v), 40 - v);
        }
    }

    private static void oneSetEach() {
        Due.sentence("SLOTS 0 to 3 hold one SET each.");
        for (int k = 0; k <= 3; k++) {
            LittleSums x = Given.told("s0,1;s1,1;s2,1;s3,1;");
            x.put(k, 2);
            for (int other = 0; other <= 3; other++) {
                Due.is("count(" + other + ") behind put(" + k + ", 2)", x.count(other), other == k ? 2 : 1);
            }
            Given.slotIs("put", x, k, 1, 2);
        }
        LittleSums x = new LittleSums();
        x.move(1, 0, 1, 0);
        x.put(0, 40);
        Given.slotIs("moved, then the other one changed", x, 1, 0, 1, 2, 5);
    }

    private static void puts() {
        Due.sentence("A number (0 to 40) is put in a SLOT: how many it has then. BAD; NO: it has it.");
        LittleSums x = Given.told("s3,0,40;");
        Due.is("put(3, 0), the least", x.put(3, 0), NO);
        Due.is("put(3, 40), the greatest", x.put(3, 40), NO);
        Due.is("put(3, 1)", x.put(3, 1), 3);
        Due.is("put(3, 39)", x.put(3, 39), 4);
        Due.is("put(0, 0), that another SLOT has", x.put(0, 0), 1);
        Due.is("put(4, 0)", x.put(4, 0), BAD);
        Due.is("put(-1, 0)", x.put(-1, 0), BAD);
        Given.slotIs("put", x, 3, 0, 1, 39, 40);
    }

    private static void takes() {
        Due.sentence("A number is taken out of a SLOT: how many it has then. BAD; NO: it has it not.");
        LittleSums x = Given.told("s3,0,5,40;s0,7;");
        Due.is("take(3, 1)", x.take(3, 1), NO);
        Due.is("take(3, 39)", x.take(3, 39), NO);
        Due.is("take(3, 7), that another SLOT has", x.take(3, 7), NO);
        Due.is("take(3, 0), the least", x.take(3, 0), 2);
        Due.is("take(3, 0) again", x.take(3, 0), NO);
        Due.is("take(3, 40), the greatest", x.take(3, 40), 1);
        Due.is("take(3, 40) again", x.take(3, 40), NO);
        Due.is("take(4, 5)", x.take(4, 5), BAD);
        Due.is("take(-1, 5)", x.take(-1, 5), BAD);
        Given.slotIs("taken", x, 3, 5);
    }

    private static void sumsUpToForty() {
        Due.sentence("SLOT k becomes SUMS of SLOTS a and b: how many. BAD; NO: some sum is above 40.");
        LittleSums x = Given.told("s0,0,20;s1,0,21;s2,19,20;s3,40;");
        Due.is("becomeSums(3, 0, 1), up to 41", x.becomeSums(3, 0, 1), NO);
        Due.is("becomeSums(3, 1, 2), up to 41", x.becomeSums(3, 1, 2), NO);
        Due.is("becomeSums(3, 3, 3), 80", x.becomeSums(3, 3, 3), NO);
        Given.slotIs("behind NO", x, 3, 40);
        Due.is("count(4) behind NO", x.count(4), 0);
        Due.is("becomeSums(1, 0, 2), up to 40", x.becomeSums(1, 0, 2), 4);
        Given.slotIs("became", x, 1, 19, 20, 39, 40);
        Due.is("becomeSums(0, 0, 0), itself, up to 40", x.becomeSums(0, 0, 0), 3);
        Given.slotIs("became", x, 0, 0, 20, 40);
        Due.is("becomeSums(0, 0, 0), up to 80", x.becomeSums(0, 0, 0), NO);
        Given.slotIs("behind NO", x, 0, 0, 20, 40);
        Due.is("becomeSums(2, 2, 2), up to 40", x.becomeSums(2, 2, 2), 3);
        Given.slotIs("became", x, 2, 38, 39, 40);
        x = Given.told("s0,24;s1,40;");
        Due.is("becomeSums(2, 0, 1), 64 alone", x.becomeSums(2, 0, 1), NO);
        x = Given.told("s0,0;s1" + Given.upTo(0, 40) + ";");
        Due.is("becomeSums(2, 0, 1), all", x.becomeSums(2, 0, 1), 41);
    }

    private static void sumsOfNone() {
        Due.sentence("(each number once; none, if one of the two has none)");
        LittleSums x = Given.told("s0,40;s1,1;s2,2;");
        Due.is("becomeSums(1, 0, 3)", x.becomeSums(1, 0, 3), 0);
        Given.slotIs("became none", x, 1);
        Due.is("becomeSums(2, 3, 0)", x.becomeSums(2, 3, 0), 0);
        Given.slotIs("became none", x, 2);
        Due.is("becomeSums(0, 3, 3)", x.becomeSums(0, 3, 3), 0);
        Given.slotIs("became none", x, 0);
        Due.is("count(4)", x.count(4), 3);
        Due.is("count(6)", x.count(6), 0);
    }

    private static void movedUpToForty() {
        Due.sentence("BAD; NO: some would be below 0 or above 40.");
        LittleSums x = Given.told("s0,0,4;s1,0,31;s2,5;s3,40;");
        Due.is("move(0, 0, 9, 4), up to 40", x.move(0, 0, 9, 4), 2);
        Given.slotIs("moved", x, 0, 4, 40);
        Due.is("move(0, 0, 1, 1), up to 41", x.move(0, 0, 1, 1), NO);
        Due.is("move(1, 1, 1, 9), up to 40", x.move(1, 1, 1, 9), 2);
        Given.slotIs("moved", x, 1, 9, 40);
        Due.is("move(1, 1, 1, 1), up to 41", x.move(1, 1, 1, 1), NO);
        Due.is("move(1, 2, 9, 0), 45", x.move(1, 2, 9, 0), NO);
        Due.is("move(1, 3, 9, 40), 400", x.move(1, 3, 9, 40), NO);
        Given.slotIs("behind NO", x, 1, 9, 40);
        Due.is("count(4), NO being no change", x.count(4), 2);
    }

    private static void movedBelowZero() {
        LittleSums x = Given.told("s0,5,20;s1,40;s2,0;");
        Due.is("move(0, 0, 1, -6), from -1", x.move(0, 0, 1, -6), NO);
        Due.is("move(0, 0, 1, -5), from 0", x.move(0, 0, 1, -5), 2);
        Given.slotIs("moved", x, 0, 0, 15);
        Due.is("move(0, 0, 1, -1), from -1", x.move(0, 0, 1, -1), NO);
        Due.is("move(2, 2, 9, -1), -1", x.move(2, 2, 9, -1), NO);
        Due.is("move(2, 2, 1, -40), -40", x.move(2, 2, 1, -40), NO);
        Due.is("move(1, 1, 1, -40), 0", x.move(1, 1, 1, -40), 1);
        Given.slotIs("moved", x, 1, 0);
        x = Given.told("s0,0,5;s1,0,1,2,3,4,40;");
        Due.is("move(2, 0, 9, -5), from -5 up to 40", x.move(2, 0, 9, -5), NO);
        Due.is("move(2, 1, 1, 1), the last alone above 40", x.move(2, 1, 1, 1), NO);
        Given.slotIs("behind NO", x, 2);
    }

    private static void movedByAllowedNumbers() {
        Due.sentence("SLOT k becomes all numbers of SLOT a, each d (1 to 9) times and v (-40 to 40) more: how many.");
        for (int d = 1; d <= 9; d++) {
            LittleSums x = Given.told("s0,0,1,4;");
            Due.is("move(3, 0, " + d + ", 0)", x.move(3, 0, d, 0), 3);
            Given.slotIs(d + " times", x, 3, 0, d, 4 * d);
            Given.slotIs("left as it was", x, 0, 0, 1, 4);
        }
        LittleSums x = Given.told("s0,0;s1,40;");
        Due.is("move(2, 0, 0, 0)", x.move(2, 0, 0, 0), BAD);
        Due.is("move(2, 0, 10, 0)", x.move(2, 0, 10, 0), BAD);
        Due.is("move(2, 0, -1, 0)", x.move(2, 0, -1, 0), BAD);
        Due.is("move(2, 0, 1, 41)", x.move(2, 0, 1, 41), BAD);
        Due.is("move(2, 1, 1, -41)", x.move(2, 1, 1, -41), BAD);
        Due.is("move(2, 0, 1, 40)", x.move(2, 0, 1, 40), 1);
        Given.slotIs("40 more", x, 2, 40);
        Due.is("move(3, 1, 1, -40)", x.move(3, 1, 1, -40), 1);
        Given.slotIs("40 less", x, 3, 0);
        for (int v = -40; v <= 40; v++) {
            x = Given.told("s0," + Math.max(0, -v) + ";");
            Due.is("move(1, 0, 1, " + v + ")", x.move(1, 0, 1, v), 1);
            Given.slotIs(v + " more", x, 1, Math.max(0, v));
        }
    }

    private static void movedNone() {
        LittleSums x = Given.told("s0,7;");
        Due.is("move(0, 1, 9, 40) of none", x.move(0, 1, 9, 40), 0);
        Due.is("move(2, 1, 1, -40) of none", x.move(2, 1, 1, -40), 0);
        Given.slotIs("became none", x, 0);
        Due.is("move(2, 1, 10, 0) of none", x.move(2, 1, 10, 0), BAD);
        Due.is("move(2, 1, 1, 41) of none", x.move(2, 1, 1, 41), BAD);
        Due.is("count(4)", x.count(4), 2);
    }

    private static void shrunkOfTwelve() {
        Due.sentence("BAD; NO: one has none, or SLOT a more than 12.");
        LittleSums x = Given.told("s0" + Given.upTo(1, 13) + ";s1,0,1;s2" + Given.upTo(0, 40) + ";");
        Due.is("shrink(3, 0, 1) of 13", x.shrink(3, 0, 1), NO);
        Due.is("shrink(3, 2, 1) of 41", x.shrink(3, 2, 1), NO);
        Given.slotIs("behind NO", x, 3);
        Due.is("count(4) behind NO", x.count(4), 0);
        Due.is("shrink(3, 1, 0) by 13", x.shrink(3, 1, 0), 2);
        Given.slotIs("shrunk by 13", x, 3, 0, 1);
        Due.is("shrink(3, 1, 2) by 41", x.shrink(3, 1, 2), 2);
        x.take(0, 13);
        Due.is("shrink(3, 0, 1) of 12", x.shrink(3, 0, 1), 12);
        Due.is("member(3, 11)", x.member(3, 11), 12);
        x.put(3, 40);
        Due.is("shrink(0, 3, 1) of 13 behind one put in", x.shrink(0, 3, 1), NO);
        Due.is("shrink(3, 0, 1) of 12 into 13", x.shrink(3, 0, 1), 12);
    }

    private static void shrunkOfNone() {
        LittleSums x = Given.told("s0,3,9;s2,5;");
        Due.is("shrink(0, 1, 0) of none", x.shrink(0, 1, 0), NO);
        Due.is("shrink(0, 0, 1) by none", x.shrink(0, 0, 1), NO);
        Due.is("shrink(0, 1, 3) of none by none", x.shrink(0, 1, 3), NO);
        Given.slotIs("behind NO", x, 0, 3, 9);
        Due.is("shrink(1, 2, 2) of one by itself", x.shrink(1, 2, 2), 1);
        Given.slotIs("shrunk", x, 1, 5);
    }

    private static void shrunkIntoItsOwn() {
        Due.sentence("SLOT k becomes that part of SLOT a of the LEAST SWELLING by SLOT b: how many.");
        // 0, 1 and 2 with 0 and 1 are 4 SUMS; each number that stands alone has 2
        LittleSums x = Given.told("s0,0,1,2,20,30;s1,0,1;");
        Due.is("shrink(0, 0, 1) into SLOT a", x.shrink(0, 0, 1), 3);
        Given.slotIs("shrunk", x, 0, 0, 1, 2);
        Due.is("shrink(1, 0, 1) into SLOT b", x.shrink(1, 0, 1), 3);
        Given.slotIs("shrunk", x, 1, 0, 1, 2);
        Due.is("undo()", x.undo(), 1);
        Given.slotIs("undone", x, 1, 0, 1);
        Due.is("undo()", x.undo(), 0);
        Given.slotIs("undone", x, 0, 0, 1, 2, 20, 30);
    }

    private static void lastSixUndone() {
        Due.sentence("UNDONE is the latest change (the last 6 can be,");
        for (int changes = 0; changes <= 9; changes++) {
            LittleSums x = Given.told("");
            for (int i = 0; i < changes; i++) {
                x.put(i % 4, 10 + i);
            }
            int kept = Math.min(6, changes);
            Due.is("count(4) behind " + changes + " changes", x.count(4), kept);
            for (int left = kept - 1; left >= 0; left--) {
                Due.is("undo() behind " + changes + " changes", x.undo(), left);
                putsAre(x, changes - kept + left);
            }
            Due.is("undo() of one more", x.undo(), NO);
            putsAre(x, changes - kept);
        }
        LittleSums x = new LittleSums();
        x.put(0, 10);
        x.put(0, 11);
        x.undo();
        Given.slotIs("the latest undone first", x, 0, 0, 1, 2, 5, 10);
        for (int v = 20; v < 26; v++) {
            x.put(0, v);
        }
        Due.is("count(4) of 7 that were not undone", x.count(4), 6);
        for (int i = 0; i < 6; i++) {
            x.undo();
        }
        Given.slotIs("the oldest of 7 stays", x, 0, 0, 1, 2, 5, 10);
    }

    /** Whether the SLOTS are as behind so many of lastSixUndone's changes. */
    private static void putsAre(LittleSums x, int changes) {
        for (int k = 0; k < 4; k++) {
            int many = (changes + 3 - k) / 4;
            Due.is("count(" + k + ") as behind " + changes + " changes", x.count(k), many);
            for (int i = 0; i < many; i++) {
                Due.is("member(" + k + ", " + i + ")", x.member(k, i), 10 + k + 4 * i);
            }
        }
    }

    private static void undoneCounts() {
        Due.sentence("UNDONE: how many more can be. NO.");
        LittleSums x = new LittleSums();
        x.put(1, 30);
        x.put(2, 30);
        x.put(3, 30);
        Due.is("undo() of 3", x.undo(), 2);
        Due.is("count(4)", x.count(4), 2);
        Due.is("put(3, 31)", x.put(3, 31), 7);
        Due.is("count(4)", x.count(4), 3);
        Due.is("undo() of 3", x.undo(), 2);
        Due.is("undo() of 2", x.undo(), 1);
        Due.is("undo() of 1", x.undo(), 0);
        Due.is("undo() of none", x.undo(), NO);
        Given.firstSlots("all undone", x);
    }

    private static void undoneOfNone() {
        LittleSums x = Given.written("s0,1;");
        Due.is("undo() at first", x.undo(), NO);
        Due.is("undo() again", x.undo(), NO);
        Given.firstSlots("behind NO", x);
        Due.is("count(4) behind NO", x.count(4), 0);
        Due.is("count(5) behind NO", x.count(5), 5);
        x.put(0, 3);
        Due.is("count(4) behind NO and a change", x.count(4), 1);
        Due.is("undo() of it", x.undo(), 0);
        Given.firstSlots("undone", x);
        Due.is("count(5), THE TEXT being no part of it", x.count(5), 5);
    }

    private static void nothingBecomesAnother() {
        Due.sentence("such by which nothing becomes another, too;");
        LittleSums x = Given.told("s0,0;s1,3,4;");
        x.put(1, 5);
        Due.is("becomeSums(1, 0, 1), itself and 0", x.becomeSums(1, 0, 1), 3);
        Due.is("move(1, 1, 1, 0), itself", x.move(1, 1, 1, 0), 3);
        Due.is("shrink(1, 1, 1), all of it", x.shrink(1, 1, 1), 3);
        Due.is("move(2, 3, 1, 0), none", x.move(2, 3, 1, 0), 0);
        Due.is("becomeSums(3, 2, 0), none", x.becomeSums(3, 2, 0), 0);
        Due.is("count(4), each of them counts", x.count(4), 6);
        for (int left = 5; left >= 1; left--) {
            Due.is("undo()", x.undo(), left);
            Given.slotIs("nothing becomes another", x, 1, 3, 4, 5);
        }
        Due.is("undo() of the put", x.undo(), 0);
        Given.slotIs("the put undone", x, 1, 3, 4);
        x.put(1, 5);
        for (int i = 0; i < 6; i++) {
            x.move(1, 1, 1, 0);
        }
        for (int i = 0; i < 6; i++) {
            x.undo();
        }
        Due.is("undo() behind 6 such", x.undo(), NO);
        Given.slotIs("the put can't be undone any more", x, 1, 3, 4, 5);
    }

    private static void behindLaidNoneUndone() {
        Due.sentence("behind LAID none can be).");
        LittleSums x = Given.written("s0,1;");
        for (int v = 30; v < 37; v++) {
            x.put(0, v);
        }
        x.lay();
        Due.is("count(4) behind lay()", x.count(4), 0);
        Due.is("undo() behind lay()", x.undo(), NO);
        Given.slotIs("behind lay() and NO", x, 0, 1);
        x.put(0, 2);
        Due.is("count(4) behind lay() and put", x.count(4), 1);
        Due.is("undo() of the put", x.undo(), 0);
        Due.is("undo() ahead of lay()", x.undo(), NO);
        Given.slotIs("laid", x, 0, 1);
        x.put(0, 2);
        x.wipe();
        Due.is("count(4) behind wipe()", x.count(4), 1);
        x.lay();
        Due.is("count(4) behind lay() of an empty TEXT", x.count(4), 0);
        x.put(0, 9);
        x.write('x');
        Due.is("lay() of a FAULT", x.lay(), NO);
        Due.is("count(4) behind lay() of a FAULT", x.count(4), 1);
    }

    private static void refusedIsNoChange() {
        Due.sentence("Of several the first in this order; nothing changes then.");
        LittleSums x = Given.told("s0,0,40;s1,1;");
        x.put(1, 2);
        x.put(1, 2);
        x.put(1, 41);
        x.take(1, 7);
        x.take(4, 1);
        x.becomeSums(1, 0, 0);
        x.becomeSums(1, 0, 4);
        x.move(1, 0, 2, 0);
        x.move(1, 0, 0, 0);
        x.shrink(1, 3, 0);
        x.shrink(1, 0, -1);
        Due.is("count(4) behind one change and ten refusals", x.count(4), 1);
        Given.slotIs("behind ten refusals", x, 1, 1, 2);
        Due.is("undo() behind them", x.undo(), 0);
        Given.slotIs("undone", x, 1, 1);
    }

    private static void fiveHundredTwelveCalls() {
        Due.sentence("An object is used for at most 512 calls after it has been made;");
        LittleSums x = new LittleSums();
        for (int call = 1; call <= 510; call += 2) {
            Due.is("put(0, 40), call " + call, x.put(0, 40), 5);
            Due.is("take(0, 40), call " + (call + 1), x.take(0, 40), 4);
        }
        Due.is("member(0, 4), call 511", x.member(0, 4), NONE);
        Due.is("undo(), call 512", x.undo(), 5);
        x = new LittleSums();
        for (int call = 1; call <= 511; call++) {
            Due.is("write(59), call " + call, x.write(';'), call <= 200 ? call : -3);
        }
        Due.is("wipe(), call 512", x.wipe(), 200);
    }
}
