/** The sentences of the document that bound THE TEXT, its ITEMS, FAULT and LAID, one by one. */
public final class TextBoundsTest {
    private static final int BAD = -1, NO = -2, FULL = -3, NONE = -4;
    private static final String FIRST = "s0,0,1,2,5;s1,0,1,4,5;s2,0,3,6,9,12;s3,0,1,10,11,20,21;";

    private TextBoundsTest() {
    }

    public static void main(String[] args) {
        newObject();
        letters();
        twoHundredLetters();
        wiped();
        itemsEndWithSemicolon();
        figures();
        slotOfItem();
        atLeastOneNumber();
        atMost41Numbers();
        numbersOfItem();
        eachMoreThanTheOneAhead();
        lastOfOneSlotCounts();
        noneItem();
        placeOfFault();
        placeOfFaultAtTheEnds();
        noFault();
        laidEmpty();
        slotsNotTold();
        laidAnswer();
        laidRefused();
        textStays();
        Due.end();
    }

    /** FAULT of a text; one with a FAULT is not LAID, and one without is. */
    private static void faultIs(String text, int want) {
        LittleSums x = Given.written(text);
        Due.is("fault() of " + text, x.fault(), want);
        int laid = x.lay();
        Due.holds("lay() of " + text + " answered " + laid, want == NONE ? laid >= 0 : laid == NO);
    }

    private static void fine(String text) {
        faultIs(text, NONE);
    }

    private static void wrong(String text) {
        faultIs(text, 0);
        faultIs("e0;" + text, 3);
    }

    private static void newObject() {
        Due.sentence("As told; THE TEXT is empty.");
        LittleSums x = new LittleSums();
        Due.is("count(5) of a new one", x.count(5), 0);
        Due.is("wipe() of a new one", x.wipe(), 0);
        Due.is("fault() of a new one", x.fault(), NONE);
        Due.sentence("At first SLOTS are as by " + FIRST);
        x = new LittleSums();
        LittleSums laid = Given.told(FIRST);
        Given.firstSlots("new", x);
        Due.holds("as by the document's text", Given.slots(x).equals(Given.slots(laid)));
        Due.is("count(4) of a new one", x.count(4), 0);
        Due.is("undo() of a new one", x.undo(), NO);
    }

    private static void letters() {
        Due.sentence("A letter (32 to 126, as in ASCII) comes behind THE TEXT: how long it is.");
        LittleSums x = new LittleSums();
        Due.is("write(31)", x.write(31), BAD);
        Due.is("write(127)", x.write(127), BAD);
        Due.is("count(5) behind BAD", x.count(5), 0);
        for (int letter = 32; letter <= 126; letter++) {
            Due.is("write(" + letter + ")", x.write(letter), letter - 31);
        }
        int[] far = {-1, 0, 10, 128, 's' + 256, 's' + 65536, Integer.MIN_VALUE, Integer.MAX_VALUE};
        for (int letter : far) {
            Due.is("write(" + letter + ")", x.write(letter), BAD);
        }
        Due.is("count(5)", x.count(5), 95);
        x = new LittleSums();
        x.write('e');
        Due.is("fault() of e", x.fault(), 0);
        x.write('2');
        Due.is("fault() of e2", x.fault(), 0);
        x.write(200);
        x.write(';');
        Due.is("fault() of e2;, a BAD letter being no part of it", x.fault(), NONE);
    }

    private static void twoHundredLetters() {
        Due.sentence("THE TEXT is letters (200 at most)");
        String text = "e0;".repeat(64) + "s1,7,30";
        LittleSums x = Given.written(text);
        Due.is("write(59), the 200th", x.write(';'), 200);
        Due.sentence("BAD; FULL: it has 200.");
        Due.is("write(59), the 201st", x.write(';'), FULL);
        Due.is("write(32), the 201st", x.write(32), FULL);
        Due.is("write(126), the 201st", x.write(126), FULL);
        Due.is("write(31), the 201st", x.write(31), BAD);
        Due.is("write(127), the 201st", x.write(127), BAD);
        Due.is("count(5) behind FULL", x.count(5), 200);
        Due.is("fault() behind FULL", x.fault(), NONE);
        Given.firstSlots("behind FULL", x);
        Due.is("lay() behind FULL", x.lay(), 1);
        Given.slotIs("laid behind FULL", x, 1, 7, 30);
        Due.is("write(59) behind lay()", x.write(';'), FULL);
        Due.is("wipe() behind FULL", x.wipe(), 200);
        Due.is("write(59) behind wipe()", x.write(';'), 1);
    }

    private static void wiped() {
        Due.sentence("THE TEXT is empty: how long it was.");
        LittleSums x = Given.written("x");
        x.put(0, 40);
        Due.is("wipe() of 1", x.wipe(), 1);
        Due.is("wipe() of none", x.wipe(), 0);
        Due.is("count(5)", x.count(5), 0);
        Due.is("fault()", x.fault(), NONE);
        Due.is("count(4), wiping being no change", x.count(4), 1);
        Given.slotIs("behind wipe()", x, 0, 0, 1, 2, 5, 40);
        x = Given.written("s0,1;s1,2;");
        x.wipe();
        Given.write(x, "s0,1");
        Due.is("fault() of s0,1 where an ; stood before", x.fault(), 0);
        Given.write(x, "0");
        Due.is("fault() of s0,10 where more stood before", x.fault(), 0);
        Given.write(x, ";");
        Due.is("lay() of s0,10; alone", x.lay(), 1);
        Given.slotIs("laid behind wipe()", x, 0, 10);
        Given.slotIs("laid behind wipe()", x, 1);
    }

    private static void itemsEndWithSemicolon() {
        Due.sentence("ITEMS one behind the other, a ; behind each");
        fine("e0;");
        fine("e0;e1;");
        fine("s0,1;s1,2;e2;s3,4;");
        wrong("e1");
        wrong("s1,2");
        wrong("e1e2;");
        wrong("s1,2s2,3;");
        wrong("s1,2,e2;");
        wrong(";");
        wrong(";;");
        wrong("e1:");
        wrong("e1,;");
        faultIs("e0;;", 3);
        faultIs("s0,1;;e0;", 5);
        faultIs("e0;e1; ", 6);
        faultIs("e0; e1;", 3);
    }

    private static void figures() {
        Due.sentence("numbers have one or two figures");
        fine("s1,7;");
        fine("s1,07;");
        fine("s1,00,01,10;");
        wrong("s1,;");
        wrong("s1,007;");
        wrong("s1,010;");
        wrong("s1,100;");
        wrong("s1,0,000;");
        wrong("s1,/;");
        wrong("s1,:;");
        wrong("s1,1/;");
        wrong("s1,1:;");
        wrong("s1,+1;");
        wrong("s1,-1;");
        wrong("s1,0x1;");
        wrong("s1, 1;");
        wrong("s1,1 ;");
        Given.slotIs("of two figures", Given.told("s1,05,06,40;"), 1, 5, 6, 40);
        fine("s01,5;");
        fine("e03;");
        wrong("s001,5;");
        wrong("e003;");
        Given.slotIs("K of two figures", Given.told("s03,5;"), 3, 5);
    }

    private static void slotOfItem() {
        Due.sentence("SLOT K (0 to 3) has the numbers A, B, ..");
        for (int k = 0; k <= 3; k++) {
            LittleSums x = Given.told("s" + k + ",0,9,40;");
            for (int other = 0; other <= 3; other++) {
                Due.is("count(" + other + ") behind s" + k, x.count(other), other == k ? 3 : 0);
            }
            Given.slotIs("told", x, k, 0, 9, 40);
        }
        wrong("s4,1;");
        wrong("s9,1;");
        wrong("s04,1;");
        wrong("s10,1;");
        wrong("s40,1;");
        wrong("s,1;");
        wrong("s-1,1;");
        wrong("s/,1;");
        wrong("s:,1;");
        wrong("S1,1;");
        wrong("r1,1;");
        wrong("t1,1;");
        wrong("1,1;");
        wrong("ss1,1;");
        wrong("s 1,1;");
    }

    private static void atLeastOneNumber() {
        Due.sentence("(one at least, 41 at most, 0 to 40, each more than the one ahead)");
        fine("s2,1;");
        fine("s2,0;");
        wrong("s2;");
        wrong("s2,;");
        wrong("s2,1,;");
        wrong("s2,,1;");
        wrong("s2,1,,2;");
        wrong("s2 1;");
        wrong("s21;");
    }

    private static void atMost41Numbers() {
        LittleSums x = Given.told("s2" + Given.upTo(0, 40) + ";");
        Due.is("count(2) of 41 told", x.count(2), 41);
        for (int i = 0; i <= 40; i++) {
            Due.is("member(2, " + i + ") of 41 told", x.member(2, i), i);
        }
        Due.is("member(2, 41) of 41 told", x.member(2, 41), NONE);
        wrong("s2" + Given.upTo(0, 41) + ";");
        wrong("s2" + Given.upTo(0, 40) + ",40;");
        wrong("s2,0" + Given.upTo(0, 40) + ";");
        Due.is("lay() of 41 and 1", Given.written("s2" + Given.upTo(0, 40) + ";s3,40;").lay(), 2);
    }

    private static void numbersOfItem() {
        for (int v = 0; v <= 40; v++) {
            Given.slotIs("told", Given.told("s3," + v + ";"), 3, v);
        }
        for (int v = 41; v <= 99; v++) {
            wrong("s3," + v + ";");
        }
        wrong("s3,39,40,41;");
    }

    private static void eachMoreThanTheOneAhead() {
        fine("s0,39,40;");
        fine("s0,0,1;");
        fine("s0,9,10;");
        fine("s0,2,10;");
        wrong("s0,1,1;");
        wrong("s0,0,0;");
        wrong("s0,40,40;");
        wrong("s0,1,0;");
        wrong("s0,10,9;");
        wrong("s0,1,01;");
        wrong("s0,1,3,2;");
        wrong("s0,1,3,3;");
        wrong("s0,2,3,1;");
        fine("s0,39,40;s0,0,1;s1,0;");
    }

    private static void lastOfOneSlotCounts() {
        Due.sentence("of several of one SLOT the last one counts");
        LittleSums x = Given.told("s0,1,2;s1,5;s0,3;");
        Given.slotIs("the last s0 counts", x, 0, 3);
        Given.slotIs("told once", x, 1, 5);
        x = Given.told("s0,3;s0,1,2;s0,7,8,9;s0,40;");
        Given.slotIs("the last of four counts", x, 0, 40);
        x = Given.told("s2,1,2;e2;");
        Given.slotIs("e2 is the last", x, 2);
        x = Given.told("e2;s2,1,2;");
        Given.slotIs("s2 is the last", x, 2, 1, 2);
        x = Given.told("s2,9;e2;s2,1;e3;");
        Given.slotIs("s2 is the last of three", x, 2, 1);
        faultIs("s0,99;s0,1;", 0);
    }

    private static void noneItem() {
        Due.sentence("eK SLOT K has none; likewise");
        for (int k = 0; k <= 3; k++) {
            LittleSums x = Given.told("s0,1;s1,1;s2,1;s3,1;e" + k + ";");
            for (int other = 0; other <= 3; other++) {
                Due.is("count(" + other + ") behind e" + k, x.count(other), other == k ? 0 : 1);
            }
        }
        wrong("e4;");
        wrong("e9;");
        wrong("e04;");
        wrong("e30;");
        wrong("e;");
        wrong("e,;");
        wrong("e/;");
        wrong("e:;");
        wrong("E1;");
        wrong("d1;");
        wrong("f1;");
        wrong("e1,1;");
        wrong("e1,;");
        wrong("e1 ;");
        Due.is("lay() of e0; alone", Given.written("e0;").lay(), 0);
    }

    private static void placeOfFault() {
        Due.sentence("FAULT: the place of the first letter of the first ITEM that is not so.");
        faultIs("x", 0);
        faultIs("s0,1,2,3,99;", 0);
        faultIs("s0,1;s1,2;s2,3,3;s9,1;", 10);
        faultIs("s0,1;x;s1,2;y;", 5);
        faultIs("e0;s1,2;e4;s2,9,8;", 8);
        faultIs("e0;s1,2;e3;s2,9,8", 11);
        LittleSums x = Given.written("e0;e1");
        Due.is("fault() of an ITEM without ;", x.fault(), 3);
        x.write(';');
        Due.is("fault() behind its ;", x.fault(), NONE);
        x.write('x');
        Due.is("fault() of one letter behind", x.fault(), 6);
    }

    private static void placeOfFaultAtTheEnds() {
        String longest = "e0;".repeat(63) + "s0,1;s0,1;";
        faultIs(longest + "e", 199);
        faultIs(longest + ";", 199);
        faultIs("e0;".repeat(66) + "e0", 198);
        faultIs("x" + "e0;".repeat(66) + ";", 0);
        faultIs("s0" + ",1".repeat(98) + ",;", 0);
        faultIs("s".repeat(200), 0);
        faultIs("e0;".repeat(65) + "s0,10", 195);
    }

    private static void noFault() {
        Due.sentence("`int fault()`: FAULT. NONE.");
        LittleSums x = new LittleSums();
        Due.is("fault() of an empty TEXT", x.fault(), NONE);
        Given.write(x, "e0;".repeat(65) + "s0,1;");
        Due.is("count(5)", x.count(5), 200);
        Due.is("fault() of a full TEXT without one", x.fault(), NONE);
        Due.is("fault() again", x.fault(), NONE);
        Due.is("count(5) behind fault()", x.count(5), 200);
        Given.firstSlots("behind fault()", x);
    }

    private static void laidEmpty() {
        Due.sentence("LAID is a TEXT without FAULT (an empty one, too): SLOTS that it does not tell have none.");
        LittleSums x = new LittleSums();
        x.put(0, 40);
        Due.is("lay() of an empty TEXT", x.lay(), 0);
        for (int k = 0; k <= 3; k++) {
            Given.slotIs("laid from an empty TEXT", x, k);
        }
        Due.is("count(6)", x.count(6), 0);
        Due.is("count(4), an empty one being LAID, too", x.count(4), 0);
        x = Given.told(FIRST);
        x.wipe();
        Due.is("lay() of a wiped TEXT", x.lay(), 0);
        Due.is("count(3)", x.count(3), 0);
    }

    private static void slotsNotTold() {
        LittleSums x = Given.told("s1,3;");
        Given.slotIs("not told", x, 0);
        Given.slotIs("told", x, 1, 3);
        Given.slotIs("not told", x, 2);
        Given.slotIs("not told", x, 3);
        x.put(0, 1);
        x.put(1, 4);
        Due.is("lay() again", x.lay(), 1);
        Given.slotIs("not told, laid again", x, 0);
        Given.slotIs("told, laid again", x, 1, 3);
    }

    private static void laidAnswer() {
        Due.sentence("LAID: how many SLOTS have a number. NO.");
        String[] texts = {"", "s3,0;", "s3,0;s0,40;", "s0,1;s1,1;s2,1;", "s0,1;s1,1;s2,1;s3,1;"};
        for (int many = 0; many <= 4; many++) {
            LittleSums x = Given.written(texts[many]);
            Due.is("lay() of " + texts[many], x.lay(), many);
            Due.is("count(6) behind it", x.count(6), many);
        }
        Due.is("lay() where one has none", Given.written("s0,1;s1,1;s2,1;s3,1;e2;").lay(), 3);
        Due.is("lay() of one SLOT told twice", Given.written("s0,1;s0,2;").lay(), 1);
    }

    private static void laidRefused() {
        LittleSums x = Given.written("s0,7;s1,8;e4;");
        x.put(3, 40);
        x.take(0, 0);
        Due.is("lay() of a FAULT", x.lay(), NO);
        Given.slotIs("behind NO", x, 0, 1, 2, 5);
        Given.slotIs("behind NO", x, 1, 0, 1, 4, 5);
        Given.slotIs("behind NO", x, 2, 0, 3, 6, 9, 12);
        Given.slotIs("behind NO", x, 3, 0, 1, 10, 11, 20, 21, 40);
        Due.is("count(5) behind NO", x.count(5), 13);
        Due.is("fault() behind NO", x.fault(), 10);
        Due.is("undo() behind NO", x.undo(), 1);
        Due.is("undo() behind NO", x.undo(), 0);
        Given.firstSlots("undone behind NO", x);
    }

    private static void textStays() {
        Due.sentence("LAID, THE TEXT stays.");
        LittleSums x = Given.written("s0,7;");
        Due.is("lay()", x.lay(), 1);
        Due.is("count(5) behind lay()", x.count(5), 5);
        Due.is("fault() behind lay()", x.fault(), NONE);
        x.take(0, 7);
        Due.is("lay() again", x.lay(), 1);
        Given.slotIs("laid again", x, 0, 7);
        Given.write(x, "s1,8;");
        Due.is("lay() of more", x.lay(), 2);
        Given.slotIs("laid with more", x, 0, 7);
        Given.slotIs("laid with more", x, 1, 8);
        Due.is("wipe()", x.wipe(), 10);
        Given.slotIs("behind wipe()", x, 0, 7);
    }
}
