/** Each bound of the tape, of a text and its fault: at the bound and one step beyond it. */
public final class TextBoundTest {
    private static final int NONE = -1;
    private static final String NINE = "size 9 9;core 0 0 1 1;core 1 0 1 1;core 2 0 1 1;core 3 0 1 1;core 4 0 1 1"
            + ";core 5 0 1 1;core 6 0 1 1;core 7 0 1 1;core 0 7 1 1";
    private static final String TEN = NINE + ";core 7 7 1 1";

    private TextBoundTest() {
    }

    public static void main(String[] args) {
        tapeIsFull();
        tapeIsEmpty();
        bytesOfZero();
        orderOfBytes();
        endOfTape();
        sizes();
        sizeIsFirstAndAlone();
        facesOfCores();
        vectorsOfCores();
        faceToldAgain();
        tenCores();
        stresses();
        holds();
        rules();
        onceEach();
        anyOrder();
        withoutThem();
        digits();
        minus();
        words();
        blanks();
        otherBytes();
        endsTooEarly();
        theFirstFault();
        faultChangesNothing();
        textIsTaken();
        textIsRefused();
        Check.finish("TextBoundTest");
    }

    private static void says(String sentence, String crystal, String rows) {
        Script.says(sentence, crystal, rows);
    }

    private static void fault(String text, int want) {
        SlipLattice x = new SlipLattice();
        Check.feed(x, text);
        Check.due("fault of " + text, x.fault(), want);
        Check.due("text of " + text + " is refused", x.text() == NONE, want != NONE);
    }

    private static void good(String... texts) {
        for (String text : texts) {
            fault(text, NONE);
        }
    }

    /** Each text's fault is where the sign ^ stands in it (which isn't fed). */
    private static void bad(String... texts) {
        for (String text : texts) {
            fault(text.replace("^", ""), text.indexOf('^'));
        }
    }

    private static SlipLattice filled(int length) {
        SlipLattice x = new SlipLattice();
        Check.due("filled", Check.feed(x, "r".repeat(length)), length);
        return x;
    }

    // Promise 2: more than 300
    private static void tapeIsFull() {
        Script.goOn("feed, up to 300", filled(280), "feed(-1, -1, -1, -1, -1) 300 count(0) 300");
        Script.goOn("feed, 301", filled(281), "feed(-1, -1, -1, -1, -1) NONE count(0) 281"
                + " feed(-1, -1, -1, -1, -256) 300");
        Script.goOn("feed, one to 299", filled(299), "feed(0, 0, 0, 0, 1) 300 feed(0, 0, 0, 0, 1) NONE count(0) 300");
        Script.goOn("feed, two to 299", filled(299), "feed(0, 0, 0, 0, 257) NONE count(0) 299"
                + " feed(16777216, 0, 0, 0, 0) 300");
        Script.goOn("feed, two of two numbers to 299", filled(299), "feed(1, 0, 0, 0, 1) NONE count(0) 299");
        Script.goOn("feed, none to 300", filled(300), "feed(0, 0, 0, 0, 0) 300 count(0) 300 status(3) 0 status(2) 0");
        Script.goOn("feed, refused: what stood there stays", filled(300),
                "feed(-1, -1, -1, -1, -1) NONE fault() 0 end(119) true feed(0, 0, 0, 0, 0) 119");
    }

    private static void tapeIsEmpty() {
        says("an empty TAPE", "", "count(0) 0 feed(0, 0, 0, 0, 0) 0 fault() 0 text() NONE end(0) true end(1) false");
    }

    // Promise 2: bytes of 0 are left out, those of 1 and of 255 are not
    private static void bytesOfZero() {
        says("bytes of 0", "", "feed(0, 0, 1, 0, 0) 1 feed(256, 0, 0, 0, 0) 2 feed(0, 65536, 0, 0, 0) 3"
                + " feed(0, 0, 0, 16777216, 0) 4 feed(0, 0, 0, 0, -16777216) 5 feed(DEEP, 0, 0, 0, 0) 6"
                + " feed(FAR, 0, 0, 0, 0) 10 feed(-1, 0, -1, 0, -1) 22"
                + " feed(16843009, 16843009, 16843009, 16843009, 16843009) 42");
        SlipLattice x = new SlipLattice();
        // "size" with a byte of 0 in the word, then blank, 4, 0, 0, 4
        x.feed(0x73690000, 0x7a650020, 0x34200034, 0, 0);
        Check.due("nothing stands where bytes of 0 were", x.fault(), NONE);
        Check.due("nor are they told", x.count(0), 8);
    }

    // Promise 2: of each number the highest first
    private static void orderOfBytes() {
        SlipLattice x = new SlipLattice();
        x.feed(0x73697a65, 0x20352036, 0x3b686f6c, 0x64203432, 0x3b72756c);
        x.feed(0x65203200, 0, 0, 0, 0);
        Script.goOn("size 5 6;hold 42;rule 2", x, "count(0) 23 text() 0 rule(0) 5 rule(1) 6 rule(4) 42 rule(5) 2");
    }

    // Promise 3
    private static void endOfTape() {
        Script.goOn("end", filled(7), "end(8) false count(0) 7 end(7) true count(0) 7 end(-1) false end(DEEP) false"
                + " end(FAR) false count(0) 7 end(6) true count(0) 6 end(7) false end(0) true count(0) 0 end(1) false");
        Script.goOn("end of a full one", filled(300), "end(301) false end(300) true end(299) true end(300) false"
                + " count(0) 299");
        SlipLattice x = new SlipLattice();
        Check.feed(x, "size 4 44");
        Script.goOn("the first n alone", x, "fault() 7 end(8) true fault() NONE");
        Check.feed(x, ";hold 1");
        Script.goOn("what comes then stands behind these", x, "count(0) 15 fault() NONE text() 0 rule(1) 4 rule(4) 1");
    }

    // size W H, 2 .. 9 each
    private static void sizes() {
        good("size 2 2", "size 9 9", "size 2 9", "size 9 2");
        bad("size ^1 5", "size ^10 5", "size 5 ^1", "size 5 ^10", "size ^0 5", "size 5 ^0", "size ^-2 5", "size 5 ^-9",
                "size ^99 5", "size 5 ^99");
    }

    private static void sizeIsFirstAndAlone() {
        bad("^core 0 0 1 1;size 4 4", "^stress 1 1;size 4 4", "^hold 1;size 4 4", "^rule 1;size 4 4", "^;size 4 4",
                "size 4 4;^size 4 4", "size 4 4;hold 1;^size 5 5", "size 4 4^size 4 4");
    }

    // X 0 .. W less 2, Y 0 .. H less 2
    private static void facesOfCores() {
        good("size 2 9;core 0 7 1 1", "size 9 2;core 7 0 1 1", "size 2 2;core 0 0 1 1", "size 9 9;core 7 7 1 1",
                "size 5 3;core 3 1 1 1");
        bad("size 2 9;core ^1 0 1 1", "size 9 2;core 0 ^1 1 1", "size 2 9;core 0 ^8 1 1", "size 9 2;core ^8 0 1 1",
                "size 2 2;core ^1 1 1 1", "size 2 2;core 0 ^1 1 1", "size 5 3;core ^4 1 1 1", "size 5 3;core 3 ^2 1 1",
                "size 5 3;core ^-1 0 1 1", "size 5 3;core 0 ^-1 1 1");
    }

    // DX, DY -2 .. 2, not both 0
    private static void vectorsOfCores() {
        good("size 4 4;core 1 1 -2 -2", "size 4 4;core 1 1 2 2", "size 4 4;core 1 1 -2 2", "size 4 4;core 1 1 0 1",
                "size 4 4;core 1 1 0 -1", "size 4 4;core 1 1 1 0", "size 4 4;core 1 1 -1 0");
        bad("size 4 4;core 1 1 ^-3 0", "size 4 4;core 1 1 ^3 0", "size 4 4;core 1 1 0 ^-3", "size 4 4;core 1 1 0 ^3",
                "size 4 4;core 1 1 0 ^0", "size 4 4;core 1 1 00 ^00", "size 4 4;core 1 1 -0 ^0",
                "size 4 4;core 1 1 0 ^-0");
    }

    // a FACE, each once; a Y by which the FACE is told again
    private static void faceToldAgain() {
        good("size 4 4;core 1 2 1 1;core 2 1 1 1", "size 4 4;core 1 2 1 1;core 1 1 1 1",
                "size 4 4;core 1 2 1 1;core 2 2 1 1");
        bad("size 4 4;core 1 2 1 1;core 1 ^2 1 1", "size 4 4;core 1 2 1 1;core 01 ^02 -1 -1",
                "size 4 4;core 0 0 1 1;core 1 2 1 1;core 0 ^0 1 1", "size 4 4;core 1 2 1 1;core 1 ^2",
                TEN.replace("7 7 1 1", "7 ^0 1 1"),
                TEN.replace("7 7 1 1", "0 ^0 1 1"));
    }

    // 10 cores at most; core the eleventh time
    private static void tenCores() {
        good(NINE, TEN, TEN + ";hold 3");
        bad(TEN + ";^core 3 3 1 1", TEN + ";^core", TEN + ";^core 9 9 9 9", TEN + ";hold 1;^core 3 3 1 1",
                TEN + ";^cores");
        says("ten are told", TEN, "rule(6) 10 core(9, 0) 7 core(9, 1) 7 core(10, 0) throws");
    }

    // stress S T, -20 .. 20 each
    private static void stresses() {
        good("size 4 4;stress -20 -20", "size 4 4;stress 20 20");
        bad("size 4 4;stress ^-21 0", "size 4 4;stress ^21 0", "size 4 4;stress 0 ^-21", "size 4 4;stress 0 ^21");
        says("stress", "size 4 4;stress -20 20", "rule(2) -20 rule(3) 20");
        says("stress", "size 4 4;stress 20 -20", "rule(2) 20 rule(3) -20");
    }

    // hold N, 0 .. 99
    private static void holds() {
        good("size 4 4;hold 0", "size 4 4;hold 99");
        bad("size 4 4;hold ^-1", "size 4 4;hold ^100", "size 4 4;hold ^-99");
        says("hold", "size 4 4;hold 99", "rule(4) 99");
        says("hold", "size 4 4;hold 0", "rule(4) 0");
    }

    // rule N, 0 .. 2
    private static void rules() {
        good("size 4 4;rule 0", "size 4 4;rule 1", "size 4 4;rule 2");
        bad("size 4 4;rule ^-1", "size 4 4;rule ^3");
        says("rule", "size 4 4;rule 1", "rule(5) 1");
        says("rule", "size 4 4;rule 2", "rule(5) 2");
    }

    private static void onceEach() {
        bad("size 4 4;stress 1 1;^stress 1 1", "size 4 4;hold 1;^hold 1", "size 4 4;rule 1;^rule 1",
                "size 4 4;stress 1 1;hold 1;rule 1;^stress 2 2", "size 4 4;hold 1;rule 1;stress 1 1;^hold 2",
                "size 4 4;rule 1;stress 1 1;hold 1;^rule 2", "size 4 4;stress 0 0;^stress 0 0",
                "size 4 4;hold 10;^hold",
                "size 4 4;rule 0;^rule 9");
    }

    private static void anyOrder() {
        String rows = "rule(2) 3 rule(3) -4 rule(4) 5 rule(5) 2 rule(6) 2";
        String[] pieces = {";stress 3 -4", ";hold 5", ";rule 2", ";core 0 0 1 1;core 2 2 1 0"};
        for (int a = 0; a < 4; a++) {
            for (int b = 0; b < 4; b++) {
                for (int c = 0; c < 4; c++) {
                    if (a != b && b != c && a != c) {
                        says("in any order", "size 4 4" + pieces[a] + pieces[b] + pieces[c] + pieces[6 - a - b - c],
                rows);
                    }
                }
            }
        }
    }

    private static void withoutThem() {
        says("without", "size 4 4", "rule(2) 0 rule(3) 0 rule(4) 10 rule(5) 0 rule(6) 0");
        SlipLattice x = Script.says("with", "size 4 4;stress 1 2;hold 3;rule 1", "rule(2) 1 rule(3) 2 rule(4) 3"
                + " rule(5) 1");
        Script.goOn("another one without", x, "tape \"size 4 4\" text() 0 rule(2) 0 rule(3) 0 rule(4) 10 rule(5) 0");
    }

    // one or two digits, as many as stand together
    private static void digits() {
        good("size 04 4", "size 4 04", "size 4 4;hold 09", "size 4 4;hold 00", "size 4 4;stress -02 -20",
                "size 4 4;core 00 01 -02 00");
        bad("size ^004 4", "size 4 ^004", "size ^444", "size 4 4;hold ^009", "size 4 4;hold ^000",
                "size 4 4;stress ^-002 1",
                "size 4 4;core ^000 0 1 1", "size 4 4;core 0 0 ^001 1",
                "size 4 4;rule ^0000000000000000000000000000001",
                "size 4 4;hold ^4294967297", "size 4 4;hold 1 ^2");
        says("of two digits", "size 04 05;hold 07", "rule(0) 4 rule(1) 5 rule(4) 7");
    }

    // perhaps -, directly ahead
    private static void minus() {
        good("size 4 4;stress -1 -1", "size 4 4;stress -1-1", "size 4 4;stress 1-1", "size 4 4;core 0 0-1-1",
                "size 4 4;hold -0");
        bad("size 4 4;stress ^- 1 1", "size 4 4;stress ^--1 1", "size 4 4;stress 1 ^- 1", "size 4 4;stress 1 ^+1",
                "size 4 4;stress ^-a 1", "size 4 4;stress 1^- 1", "size 4 4;stress 1 1^-1", "size 4 4;stress 1 1^-");
        says("the sign is the number's own", "size 4 4;stress 1-1", "rule(2) 1 rule(3) -1");
    }

    private static void words() {
        good("size4 4;hold5;core0 0 1 1;rule1;stress-1-1");
        bad("^sizes 4 4", "^siz 4 4", "^si ze 4 4", "^Size 4 4", "^sIZE 4 4", "^sizea4 4", "^asize 4 4", "^44",
                "size 4 4;^cor 0 0 1 1", "size 4 4;^cores 0 0 1 1", "size 4 4;^stres 1 1", "size 4 4;^stresss 1 1",
                "size 4 4;^hol 1", "size 4 4;^holds 1", "size 4 4;^rul 1", "size 4 4;^rules 1", "size 4 4;^holdrule 1",
                "size 4 4;^wall 1", "size 4 4;^ruld 1", "size 4 4;^5", "size 4 4;hold ^x", "size 4 4;hold ^hold",
                "size 4 4;^-");
    }

    private static void blanks() {
        good("   size   4   4   ", "size 4 4 ; hold 1 ; rule 1 ", "size4 4;hold1;rule1",
                "size 4 4;  core  1  1  -1  2  ");
        bad("size 4 4; hold 1 ^hold 2", "size 4 4 ;  ^holt", "  ^siz", "size  ^1 4", "size 4 4 ; core 0  ^9 1 1",
                "size 4 4;hold 1 ^0", "size 4 4;^ho ld 1");
    }

    /** Blanks are 32 alone, signs ; alone, letters a to z alone, digits 0 to 9 alone. */
    private static void otherBytes() {
        for (int b = 1; b < 256; b++) {
            String sign = String.valueOf((char) b);
            boolean blank = b == ' ';
            boolean digit = b >= '0' && b <= '9';
            boolean letter = b >= 'a' && b <= 'z';
            fault(sign + "size 4 4", blank ? NONE : 0);
            fault("size" + sign + "4 4", blank || b == '0' ? NONE : letter ? 0 : 4);
            fault("size 4" + sign + "4", blank ? NONE : digit ? 5 : 6);
            fault("size 4 4" + sign, blank ? NONE : digit ? 7 : b == ';' ? 9 : 8);
            fault("size 4 4;" + sign + "hold 1", blank ? NONE : 9);
            fault("size 4 4" + sign + "hold 1", b == ';' ? NONE : blank ? 9 : digit ? 7 : 8);
        }
    }

    // the length, if the TEXT ends too early
    private static void endsTooEarly() {
        bad("^", " ^", "   ^", "size^", "size ^", "size 4^", "size 4 ^", "size 4 4;^", "size 4 4; ^", "size 4 4;core^",
                "size 4 4;core ^", "size 4 4;core 0^", "size 4 4;core 0 ^", "size 4 4;core 0 0^", "size 4 4;core 0 0 ^",
                "size 4 4;core 0 0 1^", "size 4 4;core 0 0 1 ^", "size 4 4;core 0 0 1 1;^", "size 4 4;stress^",
                "size 4 4;stress ^", "size 4 4;stress 1^", "size 4 4;stress 1 ^", "size 4 4;hold^", "size 4 4;hold  ^",
                "size 4 4;rule^", "size 4 4;rule  ^", "size 4 4;rule 1;^");
        bad("size 4^;", "size 4 4;core 0 0 1^;hold 1", "size 4 4;stress 1^;", "size 4 4;hold^;", "size 4 4;^;");
        SlipLattice x = new SlipLattice();
        Check.feed(x, " ".repeat(300));
        Check.due("300 blanks", x.fault(), 300);
        x = new SlipLattice();
        Check.feed(x, " ".repeat(292) + "size 4 4");
        Script.goOn("300 bytes", x, "count(0) 300 fault() NONE text() 0 count(0) 0");
        x = new SlipLattice();
        Check.feed(x, " ".repeat(291) + "size 4 4;");
        Script.goOn("300 bytes, too early", x, "fault() 300 text() NONE count(0) 300");
        x = new SlipLattice();
        Check.feed(x, "size 4 4;hold " + "1".repeat(286));
        Script.goOn("300 bytes, a long number", x, "fault() 14");
        x = new SlipLattice();
        Check.feed(x, "size 4 4;" + "h".repeat(291));
        Script.goOn("300 bytes, a long word", x, "fault() 9");
    }

    private static void theFirstFault() {
        bad("size ^1 1", "^sise 1 1", "size 4 4;core ^9 9 9 9", "size 4 4;core 0 ^9 9 9", "size 4 4;core 0 0 ^9 9",
                "size 4 4;core 1 1 1 1;core 1 ^1 9 9", "size 4 4;core 1 1 1 1;core ^9 1 9 9", "size 4 4;stress ^99 99",
                "size 4 4;^holt 100;rule 3", "size 4 4;hold ^100;rule 3", "size 4 4;core 0 0 0 ^0;hold 100");
    }

    private static void faultChangesNothing() {
        says("fault", "size 4 4;core 0 0 1 1;hold 3", "tape \"size 9 9;core 1 1 1 0;hold 4\" fault() NONE fault() NONE"
                + " count(0) 28 rule(0) 4 rule(4) 3 rule(6) 1 core(0, 3) 1 tape \"size 1\" fault() 5 count(0) 6"
                + " rule(0) 4");
    }

    // Promise 5
    private static void textIsTaken() {
        SlipLattice x = Script.says("a crystal of old", "size 4 4;core 0 0 1 0;core 2 2 1 0;stress 20 0;hold 0;rule 2",
                "go(3) 4 image() 3 shift(1, 1, 1, 1) 11 tape \"ru\" path(0, 0) 0 go(0) NONE shift(9, 9, 1, 1) NONE");
        Script.goOn("it is gone, but what status() tells", x, "tape \"size 3 3\" text() 0 count(0) 0 count(1) 0"
                + " count(2) 0"
                + " rule(0) 3 rule(1) 3 rule(2) 0 rule(4) 10 rule(5) 0 rule(6) 0 rule(7) 0 rule(8) 0 undo() NONE"
                + " back() NONE"
                + " gone(0) HIDDEN log(0, 0) NONE status(0) 0 status(1) 1 status(2) 1 status(3) 0"
                + " link(3, 0, true, 0) HIDDEN"
                + " link(1, 1, false, 0) 1 link(1, 1, false, 1) 0 link(1, 1, true, 0) 0 link(1, 1, true, 1) 1");
        Script.goOn("the empty TAPE is no CRYSTAL", x, "text() NONE fault() 0 rule(0) 3");
        says("how many", "", "tape \"size 2 2\" text() 0 tape \"size 2 2;core 0 0 0 1\" text() 1 rule(6) 1");
        x = new SlipLattice();
        Check.feed(x, TEN);
        Script.goOn("ten", x, "text() 10 count(0) 0");
    }

    private static void textIsRefused() {
        SlipLattice x = Script.says("a crystal", "size 4 4;core 0 0 1 0;stress 20 0;hold 3",
                "go(1) 1 image() 1 go(1) 1 tape \"r\" path(0, 0) 0 set(3, 1) 0");
        Script.goOn("a FAULT: all stays", x, "tape \"size 5 5;core 1 1 0 1;stress 1 1;hold 4;rule 2;x\" text() NONE"
                + " count(0) 48"
                + " rule(0) 4 rule(1) 4 rule(2) 20 rule(3) 0 rule(4) 3 rule(5) 1 rule(6) 1 rule(8) 2 count(1) 2"
                + " count(2) 2"
                + " gone(2) 1 core(0, 0) 2 face(2, 0, 0) 1 status(0) 0 status(1) 0 status(2) 0 status(3) 0 undo() 1"
                + " back() 1");
        says("no CRYSTAL came", "", "tape \"size 1 1\" text() NONE rule(0) HIDDEN count(0) 8 status(0) 0 status(2) 0");
    }
}
