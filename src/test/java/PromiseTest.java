import java.util.NoSuchElementException;

/** Each promise by its number, with answers worked out by hand from the document. */
public final class PromiseTest {
    private static final int NONE = -1;
    private static final int HIDDEN = -1000000;
    private static final int FAR = Integer.MAX_VALUE;
    private static final int DEEP = Integer.MIN_VALUE;
    private static final String PAIR = "size 4 3;core 0 0 1 0;core 2 0 -1 0;hold 0";
    private static final String MIXED = "size 5 4;core 2 1 0 1;core 3 2 1 1;hold 5;stress 4 -3;rule 1";
    private static final String TEN = "size 9 9;core 0 0 1 1;core 2 0 1 1;core 4 0 1 1;core 6 0 1 1;core 0 2 1 1"
            + ";core 2 2 1 1;core 4 2 1 1;core 6 2 1 1;core 0 4 1 1;core 2 4 1 1";

    private PromiseTest() {
    }

    public static void main(String[] args) {
        newObject();
        feed();
        end();
        faultOfSize();
        faultOfPieces();
        text();
        rule();
        coreTold();
        coreForces();
        face();
        link();
        box();
        halved();
        path();
        gone();
        move();
        moveRefused();
        go();
        goMeeting();
        log();
        shift();
        shake();
        set();
        wall();
        rid();
        meets();
        ahead();
        rests();
        layer();
        line();
        stills();
        undo();
        imageAndBack();
        status();
        most();
        count();
        Check.finish("PromiseTest");
    }

    private static void due(String call, long got, long want) {
        Check.due(call, got, want);
    }

    /** A row of answers: each pair is what was got and what is due. */
    private static void rows(String call, long... pairs) {
        for (int i = 0; i + 1 < pairs.length; i += 2) {
            due(call + ", row " + i / 2, pairs[i], pairs[i + 1]);
        }
    }

    private static long coreOf(SlipLattice x, int i, int what) {
        try {
            return x.core(i, what);
        } catch (NoSuchElementException e) {
            return Long.MIN_VALUE;
        }
    }

    // Promise 1
    private static void newObject() {
        SlipLattice x = new SlipLattice();
        for (int i = -1; i < 15; i++) {
            due("new: rule", x.rule(i), HIDDEN);
        }
        rows("new", x.count(0), 0, x.count(1), 0, x.count(2), 0, x.status(0), 0, x.status(1), 0, x.status(2), 0,
                x.status(3), 0, x.fault(), 0, x.gone(0), HIDDEN, x.log(0, 0), NONE, x.wall(0, 0), NONE,
                x.link(0, 0, true, 0), HIDDEN, x.box(0, 0, 1, 1, 0), HIDDEN, x.layer(0, 0), HIDDEN,
                x.line(0, 0), HIDDEN, x.ahead(0, 0), HIDDEN, x.meets(1, 0), NONE, x.halved(NONE, 9), NONE,
                coreOf(x, 0, 0), Long.MIN_VALUE);
    }

    // Promise 2
    private static void feed() {
        SlipLattice x = new SlipLattice();
        due("feed of nothing", x.feed(0, 0, 0, 0, 0), 0);
        due("feed leaves bytes of 0 out", x.feed(0x00720075, 0, 0x6c000000, 0, 0x00000064), 4);
        due("the order of bytes: no crystal yet", x.path(0, 0), NONE);
        due("255 is a byte", x.feed(-1, 0, 0, 0, 0), 8);
        due("its place is a fault's", x.fault(), 0);
        x = Check.of("size 4 4");
        x.feed(0x00720075, 0, 0x6c000000, 0, 0x00000064);
        rows("the highest byte first", x.path(0, 0), 1, x.gone(2), 4);
        for (int i = 1; i <= 15; i++) {
            due("feed of twenty", x.feed(-1, -1, -1, -1, -1), 20 * i);
        }
        due("more than 300", x.feed(0x61000000, 0, 0, 0, 0), NONE);
        due("nothing came", x.count(0), 300);
        due("300 stays", x.feed(0, 0, 0, 0, 0), 300);
        x.end(298);
        due("all or nothing", x.feed(0x61616100, 0, 0, 0, 0), NONE);
        rows("each number counts", x.feed(0, 0x616161, 0, 0, 0), NONE, x.feed(0, 0, 0x616161, 0, 0), NONE,
                x.feed(0, 0, 0, 0x616161, 0), NONE, x.feed(0, 0, 0, 0, 0x616161), NONE);
        due("298 still", x.count(0), 298);
        due("just 300", x.feed(0x61, 0, 0, 0, 0x61000000), 300);
    }

    // Promise 3
    private static void end() {
        SlipLattice x = new SlipLattice();
        Check.due("end(0) of none", x.end(0), true);
        Check.due("end(1) of none", x.end(1), false);
        Check.due("end(-1)", x.end(-1), false);
        Check.feed(x, "size 4 4;core");
        Check.due("end(14)", x.end(14), false);
        Check.due("end(FAR)", x.end(FAR), false);
        Check.due("end(DEEP)", x.end(DEEP), false);
        due("all stays", x.count(0), 13);
        Check.due("end(13)", x.end(13), true);
        Check.due("end(8)", x.end(8), true);
        rows("the first 8 alone", x.count(0), 8, x.fault(), NONE);
    }

    private static void fault(String text, int want) {
        SlipLattice x = new SlipLattice();
        Check.feed(x, text);
        due("fault of " + text, x.fault(), want);
        due("the tape stays", x.count(0), text.length());
        due("text of " + text, x.text() == NONE ? 1 : 0, want == NONE ? 0 : 1);
        due("the tape behind text", x.count(0), want == NONE ? 0 : text.length());
    }

    // Promise 4, the first piece
    private static void faultOfSize() {
        fault("", 0);
        fault("   ", 3);
        fault("size", 4);
        fault("size 4", 6);
        fault("size 4 ", 7);
        fault("size 4 4", NONE);
        fault("  size4 4  ", NONE);
        fault("size 44", 5);
        fault("size 1 4", 5);
        fault("size 4 1", 7);
        fault("size 2 9", NONE);
        fault("size 9 2", NONE);
        fault("size 9 10", 7);
        fault("size 04 09", NONE);
        fault("size 004 4", 5);
        fault("size -4 4", 5);
        fault("size - 4 4", 5);
        fault("size 4-4", 6);
        fault("size 4 -", 7);
        fault("size +4 4", 5);
        fault("size 4,4", 6);
        fault("size x 4", 5);
        fault("size\t4 4", 4);
        fault("siz", 0);
        fault("sizes 4 4", 0);
        fault("Size 4 4", 0);
        fault("sizea 4 4", 0);
        fault("sizez 4 4", 0);
        fault("xize 4 4", 0);
        fault("size`4 4", 4);
        fault("size{4 4", 4);
        fault("size 4/4", 6);
        fault("size 4:4", 6);
        fault(" ;size 4 4", 1);
        fault("4 4", 0);
        fault("core 0 0 1 1", 0);
        fault("hold 3;size 4 4", 0);
    }

    // Promise 4, the others
    private static void faultOfPieces() {
        fault("size 4 4 4", 9);
        fault("size 4 4 core 0 0 1 1", 9);
        fault("size 4 4;", 9);
        fault("size 4 4; ", 10);
        fault("size 4 4;;", 9);
        fault("size 4 4;size 4 4", 9);
        fault("size 4 4;cor 0 0 1 1", 9);
        fault("size 4 4 ; core0 0-1-1", NONE);
        fault("size 4 4;core 2 2 -2 2", NONE);
        fault("size 4 4;core 3 0 1 1", 14);
        fault("size 4 4;core -1 0 1 1", 14);
        fault("size 4 4;core 0 3 1 1", 16);
        fault("size 4 4;core 0 0 3 0", 18);
        fault("size 4 4;core 0 0 -3 1", 18);
        fault("size 4 4;core 0 0 1 3", 20);
        fault("size 4 4;core 0 0 0 -3", 20);
        fault("size 4 4;core 0 0 0 0", 20);
        fault("size 4 4;core 0 0 0 -0", 20);
        fault("size 4 4;core 0 0 1", 19);
        fault("size 4 4;core 0 0 1 ;", 20);
        fault("size 4 4;core 0 0 1 1 1", 22);
        fault("size 4 4;core 0 0 1 1;core 0 1 1 1;core 1 0 1 1", NONE);
        fault("size 4 4;core 0 0 1 1;core 0 0 5 5", 29);
        fault("size 4 4;stress 20 -20", NONE);
        fault("size 4 4;stress 21 0", 16);
        fault("size 4 4;stress 0 -21", 18);
        fault("size 4 4;stress 1 1;stress 1 1", 20);
        fault("size 4 4;hold 99", NONE);
        fault("size 4 4;hold 100", 14);
        fault("size 4 4;hold -1", 14);
        fault("size 4 4;hold 1;rule 1;hold 1", 23);
        fault("size 4 4;rule 2", NONE);
        fault("size 4 4;rule 3", 14);
        fault("size 4 4;rule 0;rule 0", 16);
        fault("size 4 4;rule 0;stress 1 1;core 0 0 1 0;hold 0", NONE);
        fault("size 4 4\u00e9", 8);
        fault(TEN, NONE);
        fault(TEN + ";core 9 9 9 9", TEN.length() + 1);
        fault(TEN + ";hold 3", NONE);
    }

    // Promise 5
    private static void text() {
        SlipLattice x = Check.of(PAIR);
        due("the tape is empty", x.count(0), 0);
        x.go(1);
        x.image();
        x.go(0);
        Check.walk(x, 0, 0, "ru");
        Check.feed(x, "size 5");
        rows("a fault: all stays", x.text(), NONE, x.count(0), 6, x.rule(0), 4, x.rule(8), 1, x.gone(2), 2,
                x.count(1), 1, x.count(2), 1, x.back(), 1, x.rule(4), 0);
        x.undo();
        x.end(0);
        Check.feed(x, "size 5 5;core 0 0 1 0;core 1 1 1 1;core 3 3 2 0");
        rows("another one", x.text(), 3, x.rule(0), 5, x.rule(1), 5, x.rule(4), 10, x.rule(6), 3, x.rule(8), 0,
                x.gone(0), HIDDEN, x.count(1), 0, x.count(2), 0, x.back(), NONE, x.undo(), NONE, x.status(2), 1);
        Check.retell(x, "size 2 2;stress 1 2;rule 2;hold 9");
        rows("told", x.rule(2), 1, x.rule(3), 2, x.rule(4), 9, x.rule(5), 2);
        Check.retell(x, "size 2 2");
        rows("untold", x.rule(2), 0, x.rule(3), 0, x.rule(4), 10, x.rule(5), 0, x.rule(7), 0);
    }

    // Promise 6
    private static void rule() {
        SlipLattice x = Check.of(MIXED);
        int[] want = {5, 4, 4, -3, 5, 1, 2, 7, 0, 1, 2, 200, 2, 1};
        for (int i = 0; i < want.length; i++) {
            due("rule(" + i + ")", x.rule(i), want[i]);
        }
        rows("no such what", x.rule(-1), HIDDEN, x.rule(14), HIDDEN, x.rule(FAR), HIDDEN, x.rule(DEEP), HIDDEN);
        x = Check.of("size 5 5;core 0 0 1 0;core 1 2 0 1;core 3 3 -2 1");
        // by pairs 0; 100 times -2 by 18 is -11; 100 by 5 is 20; alone 50, 50, 250
        due("ENERGY is cut towards 0", x.rule(11), 359);
        rows("ENERGY of neighbours", Check.of("size 3 3;core 0 0 1 0;core 1 0 2 0").rule(11), 450,
                Check.of("size 3 3;core 0 0 1 2;core 1 1 2 -2").rule(11), 550);
        due("without a WAY", Check.of("size 3 3;core 0 0 1 2;core 1 1 2 -2;core 0 1 0 1").rule(13), 2);
        x = Check.of("size 3 3;core 0 0 1 2");
        x.shift(0, 0, 5, 5);
        x.shift(1, 0, 3, 3);
        rows("the sum round all", x.rule(9), 1, x.rule(10), 2);
    }

    // Promise 7
    private static void coreTold() {
        SlipLattice x = Check.of("size 5 5;core 3 1 2 0;core 0 2 0 -1;core 1 1 -1 2;core 2 0 -2 0");
        int[][] want = {{2, 0, -2, 0, 0}, {1, 1, -1, 2, -1}, {3, 1, 2, 0, 0}, {0, 2, 0, -1, 1}};
        for (int i = 0; i < want.length; i++) {
            for (int what = 0; what < 5; what++) {
                due("core(" + i + ", " + what + ")", coreOf(x, i, what), want[i][what]);
            }
        }
        int[][] none = {{-1, 0}, {4, 0}, {0, -1}, {0, 6}, {FAR, 0}, {DEEP, 0}, {0, FAR}, {0, DEEP}};
        for (int[] one : none) {
            due("core(" + one[0] + ", " + one[1] + ")", coreOf(x, one[0], one[1]), Long.MIN_VALUE);
        }
    }

    private static void forces(String text, int first, int second) {
        SlipLattice x = Check.of(text);
        due("force on 0 of " + text, coreOf(x, 0, 5), first);
        due("force on 1 of " + text, coreOf(x, 1, 5), second);
    }

    // Promise 7, the forces
    private static void coreForces() {
        forces("size 5 5;core 0 0 1 0;core 2 1 2 0;rule 0", -480, 480);
        forces("size 5 5;core 0 0 1 0;core 2 1 2 0;rule 1", -66, 66);
        forces("size 5 5;core 0 0 1 0;core 2 1 2 0;rule 2", -48, 48);
        forces("size 5 5;core 0 0 1 0;core 2 1 2 0;rule 0;stress 3 9", -477, 486);
        forces("size 5 5;core 0 0 1 0;core 1 2 1 0", 120, -120);
        forces("size 5 5;core 0 0 1 0;core 2 3 1 0;rule 2", -9, 9);
        forces("size 5 5;core 1 0 0 1;core 0 2 1 -1;stress 7 -2", 238, 0);
        forces("size 5 5;core 1 0 0 1;core 1 3 0 -1", 333, -333);
        forces("size 5 5;core 1 0 1 0;core 1 3 -1 0;rule 1", 0, 0);
        forces("size 5 5;core 0 0 1 0;core 3 0 0 1;stress 4 5", 4, 5);
        forces("size 5 5;core 0 0 1 1;core 3 0 -1 -1;stress 4 5", 0, 0);
        forces("size 5 5;core 0 0 -2 0;core 3 3 0 -1;stress 4 5", -8, -5);
        forces("size 5 5;core 0 0 2 0;core 1 0 2 0", -4000, 4000);
        forces("size 5 5;core 0 0 2 0;core 1 0 2 0;rule 1", -400, 400);
        forces("size 5 5;core 0 0 2 0;core 1 0 2 0;rule 2", -240, 240);
    }

    // Promise 8
    private static void face() {
        SlipLattice x = Check.of("size 4 3;core 0 1 2 -1;core 2 0 0 1");
        rows("face", x.face(0, 1, 0), 2, x.face(0, 1, 1), -1, x.face(0, 1, 2), 1, x.face(2, 0, 0), 0,
                x.face(2, 0, 1), 1, x.face(2, 0, 2), 0, x.face(1, 0, 0), 0, x.face(1, 0, 1), 0, x.face(1, 0, 2), NONE);
        rows("no such ones", x.face(3, 0, 0), HIDDEN, x.face(0, 2, 0), HIDDEN, x.face(-1, 0, 2), HIDDEN,
                x.face(0, -1, 2), HIDDEN, x.face(0, 0, 3), HIDDEN, x.face(0, 0, -1), HIDDEN,
                x.face(FAR, 0, 0), HIDDEN, x.face(0, FAR, 0), HIDDEN, x.face(DEEP, DEEP, 0), HIDDEN);
    }

    // Promise 9
    private static void link() {
        SlipLattice x = Check.of("size 4 3;core 1 1 2 -1");
        rows("link", x.link(0, 1, true, 0), -2, x.link(0, 1, true, 1), 2, x.link(1, 1, true, 0), -2,
                x.link(1, 1, true, 1), 2, x.link(2, 1, true, 0), 0, x.link(2, 1, true, 1), 1,
                x.link(0, 0, true, 1), 1, x.link(0, 0, false, 0), 1, x.link(0, 0, false, 1), 0,
                x.link(3, 1, true, 1), 1, x.link(2, 2, false, 0), 1);
        rows("no such ones", x.link(3, 0, false, 0), HIDDEN, x.link(0, 2, true, 0), HIDDEN,
                x.link(4, 0, true, 0), HIDDEN, x.link(0, 3, false, 0), HIDDEN, x.link(-1, 0, false, 0), HIDDEN,
                x.link(0, -1, true, 0), HIDDEN, x.link(0, 0, true, 2), HIDDEN, x.link(0, 0, true, -1), HIDDEN,
                x.link(FAR, FAR, true, 0), HIDDEN, x.link(DEEP, 0, false, 0), HIDDEN);
    }

    // Promise 10
    private static void box() {
        SlipLattice x = Check.of("size 5 4;core 0 0 1 2;core 2 1 -2 1;core 3 2 0 1");
        rows("box", x.box(0, 0, 4, 3, 0), -1, x.box(0, 0, 4, 3, 1), 4, x.box(0, 0, 4, 3, 2), 3,
                x.box(0, 0, 4, 3, 3), 14, x.box(0, 0, 1, 1, 1), 2, x.box(1, 0, 3, 2, 0), -2,
                x.box(1, 0, 3, 2, 2), 1, x.box(1, 0, 3, 2, 3), 8, x.box(2, 1, 4, 3, 1), 2, x.box(2, 1, 4, 3, 2), 2,
                x.box(3, 0, 4, 1, 2), 0, x.box(0, 0, 2, 2, 2), 1, x.box(0, 0, 4, 1, 2), 1, x.box(1, 1, 3, 3, 3), 8);
        rows("no such ones", x.box(1, 0, 1, 1, 0), HIDDEN, x.box(0, 1, 1, 1, 0), HIDDEN, x.box(2, 0, 1, 1, 3), HIDDEN,
                x.box(0, 2, 1, 1, 3), HIDDEN, x.box(0, 0, 5, 1, 0), HIDDEN, x.box(0, 0, 1, 4, 0), HIDDEN,
                x.box(-1, 0, 1, 1, 0), HIDDEN, x.box(0, -1, 1, 1, 0), HIDDEN, x.box(0, 0, 1, 1, 4), HIDDEN,
                x.box(0, 0, 1, 1, -1), HIDDEN, x.box(DEEP, DEEP, FAR, FAR, 3), HIDDEN);
    }

    private static void boxes(String text, int[]... want) {
        SlipLattice x = Check.of(text);
        due("boxes of " + text, x.halved(NONE, FAR), want.length);
        for (int k = 0; k < want.length; k++) {
            for (int what = 0; what < 4; what++) {
                due("halved(" + k + ", " + what + ") of " + text, x.halved(k, what), want[k][what]);
            }
        }
        rows("no such box", x.halved(want.length, 0), NONE, x.halved(-2, 0), NONE, x.halved(0, 4), NONE,
                x.halved(0, -1), NONE, x.halved(FAR, 0), NONE, x.halved(DEEP, 0), NONE);
    }

    // Promise 11
    private static void halved() {
        boxes("size 2 2;core 0 0 1 1", new int[] {0, 0, 1, 1});
        boxes("size 2 9;core 0 7 0 1", new int[] {0, 0, 1, 8}, new int[] {0, 4, 1, 8}, new int[] {0, 6, 1, 8},
                new int[] {0, 7, 1, 8});
        boxes("size 4 2;core 0 0 1 0", new int[] {0, 0, 3, 1}, new int[] {0, 0, 1, 1});
        boxes("size 4 2;core 1 0 1 0", new int[] {0, 0, 3, 1}, new int[] {1, 0, 3, 1}, new int[] {1, 0, 2, 1});
        boxes("size 3 3;core 0 1 1 0", new int[] {0, 0, 2, 2}, new int[] {0, 0, 1, 2}, new int[] {0, 1, 1, 2});
        boxes("size 5 2;core 0 0 1 0;core 1 0 -1 0;core 3 0 1 0", new int[] {0, 0, 4, 1}, new int[] {2, 0, 4, 1},
                new int[] {3, 0, 4, 1});
        boxes("size 9 9;core 4 4 1 1", new int[] {0, 0, 8, 8}, new int[] {4, 0, 8, 8}, new int[] {4, 4, 8, 8},
                new int[] {4, 4, 6, 8}, new int[] {4, 4, 6, 6}, new int[] {4, 4, 5, 6}, new int[] {4, 4, 5, 5});
        boxes(PAIR);
        boxes("size 9 9");
    }

    // Promise 12
    private static void path() {
        SlipLattice x = Check.of(PAIR);
        rows("paths", Check.walk(x, 0, 0, "ruld"), 1, x.count(0), 0, Check.walk(x, 0, 0, "r"), 0,
                Check.walk(x, 3, 2, ""), 1, Check.walk(x, 0, 0, "rl".repeat(60)), 1, x.gone(2), 120);
        rows("the 121st", Check.walk(x, 0, 0, "rl".repeat(60) + "r"), -122, x.count(0), 121, x.gone(2), 120);
        rows("leads out", Check.walk(x, 2, 2, "ru"), -3, x.count(0), 2, Check.walk(x, 0, 0, "l"), -2,
                Check.walk(x, 0, 0, "d"), -2, Check.walk(x, 0, 0, "rrrr"), -5);
        rows("a byte that is none", Check.walk(x, 0, 0, "r u"), -3, Check.walk(x, 0, 0, "rU"), -3,
                Check.walk(x, 0, 0, "ru;"), -4, x.count(0), 3);
        rows("no such SITE, ahead of all", x.path(4, 0), NONE, x.path(0, 3), NONE, x.path(-1, 0), NONE,
                x.path(0, -1), NONE, x.path(FAR, DEEP), NONE, x.count(0), 3);
    }

    // Promise 13
    private static void gone() {
        SlipLattice x = Check.of(PAIR);
        due("none yet", x.gone(0), HIDDEN);
        Check.walk(x, 2, 1, "q");
        due("a refused one", x.gone(2), HIDDEN);
        Check.walk(x, 1, 0, "urd");
        // up (1, 1), right (1, 0), down (1, 1) less
        int[] want = {1, 0, 3, 2, 0};
        for (int i = 0; i < want.length; i++) {
            due("gone(" + i + ")", x.gone(i), want[i]);
        }
        x.shift(1, 1, 5, 5);
        x.move(0, 0, 0, 0);
        Check.walk(x, 1, 0, "uz");
        for (int i = 0; i < want.length; i++) {
            due("it stays: gone(" + i + ")", x.gone(i), want[i]);
        }
        rows("no such what", x.gone(-1), HIDDEN, x.gone(5), HIDDEN, x.gone(FAR), HIDDEN, x.gone(DEEP), HIDDEN);
        x = Check.of("size 4 3;core 0 0 1 1;core 2 0 -1 2");
        x.shift(1, 1, 2, 3);
        Check.walk(x, 2, 1, "lld");
        // left (-1, -3) less, left (3, 3) less, down (0, -2) less
        rows("to the left and down", x.gone(0), -2, x.gone(1), 2, x.gone(2), 3, x.gone(3), 0, x.gone(4), 0);
        Check.walk(x, 1, 0, "");
        rows("a path of none", x.gone(0), 0, x.gone(1), 0, x.gone(2), 0, x.gone(3), 1, x.gone(4), 0);
    }

    // Promise 14
    private static void move() {
        SlipLattice x = Check.of("size 5 5;core 1 1 1 2;core 3 3 0 1");
        rows("a mixed VECTOR climbs", x.move(1, 1, 0, 0), 1, x.face(2, 1, 0), 1, x.face(2, 1, 1), 2,
                x.face(1, 1, 2), NONE, x.link(2, 1, true, 0), -1, x.link(2, 1, true, 1), -1, x.move(2, 1, 0, 1), 1,
                x.link(2, 2, false, 0), 2, x.link(2, 2, false, 1), 2, x.face(2, 2, 1), 2);
        rows("a part along its WAY", x.move(2, 2, 1, 2), 0, x.face(1, 2, 0), 1, x.face(1, 2, 1), 0,
                x.face(2, 2, 0), 0, x.face(2, 2, 1), 2, x.rule(6), 3, x.move(2, 2, 2, 3), 0, x.move(2, 1, 2, 0), 1);
        rows("they meet and are added", x.move(3, 1, 0, 1), 0, x.move(3, 2, 0, 1), 0, x.face(3, 3, 1), 3, x.rule(6), 2);
        x = Check.of("size 3 3;core 0 0 1 0;core 1 0 -1 0;core 0 1 -1 2;core 1 1 2 0");
        rows("cancelled", x.move(0, 0, 0, 0), 2, x.rule(6), 2, x.face(1, 0, 2), NONE);
        rows("a part is added to another one", x.move(0, 1, 1, 0), 0, x.face(1, 1, 0), 1, x.face(0, 1, 1), 2);
        rows("out at each edge", x.move(1, 1, 0, 1), 3, x.link(1, 2, false, 0), 2, x.move(0, 1, 2, 2), 3,
                x.link(0, 1, true, 1), 1, x.rule(6), 0, x.rule(9), 0, x.rule(10), 0);
        x = Check.of("size 3 3;core 0 0 1 0;core 1 1 0 1");
        rows("out below and on the right", x.move(0, 0, 0, 3), 3, x.link(0, 0, false, 0), 0, x.move(1, 1, 0, 0), 3,
                x.link(2, 1, true, 1), 0, x.rule(6), 0, x.count(1), 2);
        x = Check.of("size 4 4;core 1 1 1 1;core 2 1 -1 0");
        rows("a part cancels", x.move(1, 1, 1, 0), 2, x.rule(6), 1, x.face(1, 1, 0), 0, x.face(1, 1, 1), 1);
    }

    // Promise 14, what is refused
    private static void moveRefused() {
        SlipLattice x = new SlipLattice();
        rows("no CRYSTAL", x.move(9, 9, 9, 9), NONE, x.status(0), 1);
        Check.retell(x, TEN);
        rows("no CORE", x.move(1, 0, 9, 9), NONE, x.move(-1, 0, 0, 0), NONE, x.move(8, 8, 0, 0), NONE,
                x.move(FAR, DEEP, 0, 0), NONE, x.status(1), 4);
        rows("no such part", x.move(0, 0, 3, 0), NONE, x.move(0, 0, -1, 0), NONE, x.move(0, 0, 0, 4), NONE,
                x.move(0, 0, 0, -1), NONE, x.status(2), 4, x.count(1), 0);
        rows("up to twelve", x.move(0, 0, 1, 1), 1, x.move(2, 0, 2, 1), 0, x.rule(6), 12);
        rows("a part that is 0", x.move(0, 0, 1, 1), NONE, x.move(0, 1, 2, 1), NONE, x.status(2), 6);
        rows("too many", x.move(4, 0, 1, 1), NONE, x.status(3), 1, x.rule(6), 12, x.count(1), 2, x.face(4, 0, 0), 1);
        rows("not too many", x.move(4, 0, 1, 3), 3, x.rule(6), 12, x.move(4, 0, 0, 1), 0, x.rule(6), 12,
                x.move(0, 0, 0, 1), 0, x.rule(6), 11, x.status(3), 1);
    }

    // Promise 15
    private static void go() {
        SlipLattice x = Check.of("size 4 3;core 1 0 1 0;stress 5 0;hold 5");
        rows("just the hold", x.go(1), 0, x.rule(8), 1, x.face(1, 0, 0), 1, x.set(2, 4), 5, x.go(1), 1,
                x.face(2, 0, 0), 1, x.go(3), 1, x.rule(6), 0, x.rule(8), 5, x.count(1), 5);
        x = Check.of("size 3 4;core 1 1 0 -1;stress 0 11;core 0 0 2 -1");
        rows("down by a WAY along y", x.go(1), 1, x.face(1, 0, 1), -1, x.face(0, 0, 0), 2, x.go(1), 1, x.log(0, 2), 1);
        x = Check.of("size 3 4;core 1 1 0 1;stress 0 11");
        rows("by the least force", Check.of("size 4 3;core 1 0 1 0;stress 1 0;hold 0").ahead(2, 3), 1,
                Check.of("size 4 3;core 1 0 1 0;stress 1 0;hold 0").ahead(2, 5), 4);
        rows("up", x.go(1), 1, x.face(1, 2, 1), 1, x.go(1), 1, x.rule(6), 0, x.log(0, 2), 1, x.rule(8), 2);
        x = Check.of(PAIR);
        rows("out of bounds", x.go(0), NONE, x.go(41), NONE, x.go(-1), NONE, x.go(DEEP), NONE, x.go(FAR), NONE,
                x.status(2), 5, x.rule(8), 0);
        rows("all forty", x.go(40), 2, x.rule(8), 40);
    }

    // Promise 15, a round in which cores meet
    private static void goMeeting() {
        SlipLattice x = Check.of("size 4 2;core 0 0 1 0;core 1 0 -2 0;hold 0");
        rows("its FACE has another VECTOR by then", x.go(1), 1, x.log(0, 0), 1, x.log(0, 1), 0, x.log(0, 2), 0,
                x.log(0, 3), 1, x.face(1, 0, 0), -1, x.face(0, 0, 0), 0);
        x = Check.of("size 4 2;core 0 0 1 0;core 1 0 -1 0;hold 0");
        rows("cancelled ahead of its glide", x.go(1), 1, x.log(0, 0), 1, x.log(0, 1), 1, x.log(0, 2), 0, x.log(0, 3),
                0);
        x = Check.of("size 5 2;core 0 0 1 0;core 2 0 -2 0;hold 0");
        rows("both go to the same FACE", x.go(1), 2, x.log(0, 1), 0, x.log(0, 3), 1, x.face(1, 0, 0), -1);
        x = Check.of("size 4 4;core 0 0 1 0;core 1 1 -1 0;rule 1");
        rows("forces are those at the start", x.go(1), 2, x.face(1, 0, 0), 1, x.face(0, 1, 0), -1);
        x = Check.of("size 4 3;core 0 0 1 0;core 1 0 1 0;core 2 0 1 0;hold 0");
        // the middle one is pushed from both sides alike
        rows("like ones go apart", x.go(1), 2, x.log(0, 2), 2, x.log(0, 3), 1, x.face(1, 0, 0), 1);
    }

    // Promise 16
    private static void log() {
        SlipLattice x = Check.of(PAIR);
        due("none", x.log(0, 0), NONE);
        x.go(2);
        rows("two", x.log(0, 0), 0, x.log(0, 3), 0, x.log(1, 0), 2, x.log(1, 1), 1, x.log(1, 2), 0, x.log(1, 3), 0,
                x.log(2, 0), NONE, x.log(-1, 0), NONE, x.log(0, 4), NONE, x.log(0, -1), NONE, x.log(FAR, FAR), NONE,
                x.log(DEEP, DEEP), NONE);
        x.go(38);
        rows("forty", x.log(39, 0), 2, x.log(40, 0), NONE, x.count(2), 40);
        x.go(1);
        rows("the latest forty", x.log(39, 0), 0, x.log(40, 0), NONE, x.count(2), 40, x.rule(8), 41);
        rows("undone: it is there again", x.undo(), 19, x.log(39, 0), 2, x.count(2), 40, x.rule(8), 40);
    }

    // Promise 17
    private static void shift() {
        SlipLattice x = Check.of("size 4 3;core 1 0 1 0;hold 0");
        int energy = x.rule(11);
        rows("in the middle", x.shift(1, 1, 9, -9), 5, x.link(0, 1, false, 0), 10, x.link(0, 1, false, 1), -9,
                x.link(1, 1, false, 0), -8, x.link(1, 1, false, 1), 9, x.link(1, 0, true, 0), 8,
                x.link(1, 0, true, 1), -8, x.link(1, 1, true, 0), -9, x.link(1, 1, true, 1), 10);
        rows("no loop changes", x.face(0, 0, 0), 0, x.face(1, 0, 0), 1, x.face(1, 0, 1), 0, x.rule(6), 1,
                x.rule(11), energy, x.count(1), 1);
        rows("a corner, the edge", x.shift(3, 2, 1, 1), 7, x.shift(0, 0, -1, 0), 7, x.rule(6), 1);
        rows("refused", x.shift(4, 0, 0, 0), NONE, x.shift(0, 3, 1, 1), NONE, x.shift(-1, 0, 1, 1), NONE,
                x.shift(FAR, DEEP, 1, 1), NONE, x.status(1), 4, x.shift(0, 0, 0, 0), NONE, x.shift(0, 0, 10, 0), NONE,
                x.shift(0, 0, 0, -10), NONE, x.shift(0, 0, -10, 1), NONE, x.shift(0, 0, 1, 10), NONE,
                x.shift(0, 0, FAR, DEEP), NONE, x.status(2), 6, x.count(1), 3);
    }

    // Promise 18
    private static void shake() {
        for (long seed : new long[] {0, 1, 5, -1, Long.MIN_VALUE, Long.MAX_VALUE, 1234567890123456789L}) {
            SlipLattice x = Check.of("size 9 9;core 4 4 1 0;core 2 2 0 1;core 3 3 1 1");
            long[] drawn = {seed};
            int[][] cores = {{2, 2, 1}, {3, 3, NONE}, {4, 4, 0}};
            int which = Model.draw(drawn, 3);
            int sign = Model.draw(drawn, 2) == 1 ? 1 : -1;
            int way = cores[which][2];
            due("shake(1, " + seed + ")", x.shake(1, seed), way == NONE ? 0 : 1);
            int toX = cores[which][0] + (way == 0 ? sign : 0);
            int toY = cores[which][1] + (way == 1 ? sign : 0);
            rows("it is there", x.face(toX, toY, 2) == NONE ? 1 : 0, 0, x.rule(6), 3, x.count(1), 1, x.rule(8), 0);
        }
        SlipLattice x = Check.of("size 3 3;core 0 0 1 0;core 1 1 0 1");
        x.shake(60, 77);
        rows("all are out, one act", x.rule(6), 0, x.count(1), 1, x.count(2), 0, x.undo(), 0, x.rule(6), 2);
        rows("out of bounds", x.shake(0, 1), NONE, x.shake(61, 1), NONE, x.shake(DEEP, 1), NONE, x.shake(FAR, 1), NONE,
                x.status(2), 4, x.count(1), 0);
        Check.retell(x, "size 3 3;core 0 0 1 2");
        rows("without a WAY", x.shake(9, 3), 0, x.count(1), 1, x.face(0, 0, 1), 2);
    }

    // Promise 19
    private static void set() {
        SlipLattice x = Check.of(MIXED);
        rows("set", x.set(0, -20), 4, x.set(0, 20), -20, x.set(1, 20), -3, x.set(1, -20), 20, x.set(2, 0), 5,
                x.set(2, 99), 0, x.set(3, 0), 1, x.set(3, 2), 0, x.rule(2), 20, x.rule(3), -20, x.rule(4), 99,
                x.rule(5), 2, x.count(1), 0);
        rows("refused", x.set(0, 21), HIDDEN, x.set(0, -21), HIDDEN, x.set(1, 21), HIDDEN, x.set(1, -21), HIDDEN,
                x.set(2, -1), HIDDEN, x.set(2, 100), HIDDEN, x.set(3, -1), HIDDEN, x.set(3, 3), HIDDEN,
                x.set(4, 0), HIDDEN, x.set(-1, 0), HIDDEN, x.set(FAR, FAR), HIDDEN, x.set(DEEP, DEEP), HIDDEN,
                x.status(2), 12, x.rule(2), 20, x.rule(4), 99);
        x.shift(0, 0, 1, 1);
        x.image();
        x.set(0, 1);
        rows("undo and back leave it", x.undo(), 0, x.rule(2), 1, x.back(), 0, x.rule(2), 1);
    }

    private static void oneWall(SlipLattice x, int k, int... want) {
        for (int what = 0; what < want.length; what++) {
            due("wall(" + k + ", " + what + ")", x.wall(k, what), want[what]);
        }
    }

    // Promise 20
    private static void wall() {
        SlipLattice x = Check.of("size 5 5;core 1 0 1 0;core 2 2 1 1;core 3 2 0 2");
        // in row 0 the links upwards of x 0, 1; in row 2 of x 0 .. 3
        oneWall(x, 0, 2, 0, 0, 1, 1);
        oneWall(x, 1, 4, 0, 2, 1, 2);
        rows("no such ones", x.wall(2, 0), NONE, x.wall(-1, 0), NONE, x.wall(0, 5), NONE, x.wall(0, -1), NONE,
                x.wall(FAR, 0), NONE, x.wall(DEEP, 0), NONE, x.rule(12), 2);
        x.shift(2, 4, 1, 0);
        // that SITE's links: from 1, 4, from 2, 4, up from 2, 3: a wall of its own
        rows("a third one", x.rule(12), 3);
        oneWall(x, 2, 3, 2, 3, 1, 0);
        x.shift(1, 2, 0, 1);
        // up from 1, 1, right from 0, 2 and from 1, 2 join row 2, and are the first now
        oneWall(x, 1, 7, 1, 1, 1, 2);
        x.shift(4, 0, 1, 1);
        oneWall(x, 1, 2, 3, 0, 0, 0);
        due("the wall of 1, 1 comes behind it", x.wall(2, 0), 7);
        x = Check.of("size 4 4");
        x.shift(0, 0, 1, 0);
        oneWall(x, 0, 2, 0, 0, 0, 0);
        rows("its first LINK is the first of all", x.rule(12), 1, x.most(5), 2);
        x = Check.of("size 4 4;core 2 1 1 0");
        x.shift(0, 1, -1, 0);
        x.shift(1, 1, -1, 0);
        x.shift(2, 1, -1, 0);
        // the CORE has a SLIPPED LINK below it alone: from 2, 1 to the right
        rows("a CORE that is above it", x.link(2, 1, true, 0), 0, x.link(2, 1, false, 0), 2, x.wall(0, 4), 1);
    }

    // Promise 21
    private static void rid() {
        SlipLattice x = Check.of("size 6 6;core 1 2 1 0;core 3 2 -1 0");
        rows("they meet", x.rid(1), 2, x.rid(9), 2, x.rid(0), NONE, x.rid(10), NONE, x.rid(FAR), NONE, x.rid(DEEP),
                NONE);
        x = Check.of("size 6 6;core 1 2 0 1");
        rows("a climb costs the price", x.rid(1), 2, x.rid(2), 3, x.rid(9), 3);
        x = Check.of("size 6 6;core 1 2 1 1");
        rows("without a WAY all is a climb", x.rid(1), 2, x.rid(4), 8);
        x = Check.of("size 8 9;core 3 3 1 0;core 2 4 -1 0;core 4 4 -1 0");
        rows("along and across", x.rid(1), 5, x.rid(2), 6, x.rid(3), 7);
        x = Check.of("size 9 9;core 4 4 1 1");
        rows("the nearest edge", x.rid(2), 8, x.move(4, 4, 0, 1), 1, x.rid(2), 6, x.move(4, 5, 0, 0), 1,
                x.move(5, 5, 0, 0), 1, x.rid(2), 4);
        due("vectors that are not each other's opposites", Check.of("size 9 9;core 3 3 1 0;core 4 3 -2 0").rid(1), 8);
        due("no CORES", Check.of("size 2 2").rid(1), 0);
        rows("down", Check.of("size 9 9;core 4 1 0 1").rid(9), 2, Check.of("size 9 9;core 4 6 0 1").rid(9), 2);
        due("along y", Check.of("size 9 9;core 4 3 0 1;core 5 5 0 -1").rid(2), 4);
        due("four that choose, and more", Check.of("size 9 9;core 3 2 1 0;core 4 2 -1 0;core 3 4 1 0;core 4 4 -1 0"
                + ";core 3 6 1 0;core 4 6 -1 0;core 4 5 1 1").rid(9), 30);
    }

    // Promise 22
    private static void meets() {
        SlipLattice x = Check.of("size 9 9;core 2 3 -1 0;core 3 3 1 0;core 4 3 -1 0");
        rows("the cheaper pair", x.rid(1), 4, x.meets(1, 0), 0, x.meets(1, 1), 2, x.meets(1, 2), 1);
        x = Check.of("size 8 9;core 2 3 -1 0;core 3 3 1 0;core 4 3 -1 0");
        rows("out ahead of another one", x.rid(1), 4, x.meets(1, 0), 0, x.meets(1, 1), 2, x.meets(1, 2), 1);
        x = Check.of("size 8 9;core 3 3 1 0;core 2 4 -1 0;core 4 4 -1 0");
        rows("the lower one first", x.rid(1), 5, x.meets(1, 0), 1, x.meets(1, 1), 0, x.meets(1, 2), 2);
        x = Check.of(PAIR);
        rows("out, at the same cost", x.meets(1, 0), 0, x.meets(1, 1), 1);
        rows("no such ones", x.meets(0, 0), NONE, x.meets(10, 0), NONE, x.meets(1, -1), NONE, x.meets(1, 2), NONE,
                x.meets(FAR, FAR), NONE, x.meets(DEEP, DEEP), NONE);
        x = Check.of("size 9 9;core 1 4 1 0;core 6 4 -1 0");
        rows("far apart they go out", x.rid(9), 4, x.meets(9, 0), 0, x.meets(9, 1), 1);
    }

    // Promise 23
    private static void ahead() {
        SlipLattice x = Check.of("size 5 3;core 1 0 1 0;core 0 1 0 1;stress 20 0");
        rows("none", x.ahead(0, 0), 2, x.ahead(0, 1), 0, x.ahead(0, 2), 0, x.ahead(0, 3), 0, x.ahead(0, 4), 100,
                x.ahead(0, 5), 3);
        rows("one", x.ahead(1, 0), 2, x.ahead(1, 1), 1, x.ahead(1, 3), 0, x.ahead(1, 5), 4);
        rows("three and more", x.ahead(3, 0), 1, x.ahead(3, 1), 3, x.ahead(3, 2), 0, x.ahead(3, 3), 1, x.ahead(3, 4),
                50,
                x.ahead(3, 5), 6, x.ahead(40, 1), 3);
        rows("nothing is changed", x.rule(6), 2, x.rule(7), 3, x.rule(8), 0, x.count(1), 0, x.count(2), 0);
        rows("out of bounds", x.ahead(-1, 0), HIDDEN, x.ahead(41, 0), HIDDEN, x.ahead(0, 6), HIDDEN,
                x.ahead(0, -1), HIDDEN, x.ahead(FAR, FAR), HIDDEN, x.ahead(DEEP, DEEP), HIDDEN, x.status(2), 0);
        due("cancelled", Check.of(PAIR).ahead(2, 2), 1);
    }

    // Promise 24
    private static void rests() {
        due("at once", Check.of("size 3 3;core 0 0 1 0").rests(), 0);
        due("three", Check.of("size 5 3;core 1 0 1 0;stress 20 0").rests(), 3);
        due("eight", Check.of("size 9 3;core 0 0 1 0;stress 20 0").rests(), 8);
        SlipLattice x = Check.of("size 4 4;core 0 0 1 0;core 1 1 -1 0;rule 1");
        rows("they pass each other for ever", x.rests(), NONE, x.rule(8), 0, x.set(2, 50), 10, x.rests(), 0);
    }

    // Promise 25
    private static void layer() {
        SlipLattice x = Check.of("size 4 3;core 1 0 1 0;core 2 1 0 1");
        x.move(1, 0, 0, 1);
        // the link to the right from 1, 1 has (2, 0) now
        rows("layer", x.layer(0, 0), 3, x.layer(0, 1), 0, x.layer(0, 2), 0, x.layer(0, 3), 2, x.layer(1, 0), 4,
                x.layer(1, 1), 0, x.layer(1, 2), 1, x.layer(1, 3), 3, x.layer(2, 0), 3, x.layer(2, 3), 0);
        x.shift(0, 2, 2, 5);
        rows("its left end is shifted", x.layer(2, 0), 1, x.layer(2, 1), -5, x.layer(2, 2), 1, x.layer(2, 3), 0);
        rows("no such ones", x.layer(3, 0), HIDDEN, x.layer(-1, 0), HIDDEN, x.layer(0, 4), HIDDEN, x.layer(0, -1),
                HIDDEN,
                x.layer(FAR, 0), HIDDEN, x.layer(DEEP, 0), HIDDEN);
    }

    // Promise 26
    private static void line() {
        SlipLattice x = Check.of("size 9 9;core 0 2 1 0;core 3 2 1 1;core 7 2 -1 0;core 3 0 0 1;core 3 6 0 2;core 5 5 1 0");
        // 0 at 3, 0; 1 at 0, 2; 2 at 3, 2; 3 at 7, 2; 4 at 5, 5; 5 at 3, 6
        int[][] want = {{2, 2, NONE, NONE}, {2, 3, NONE, NONE}, {HIDDEN, HIDDEN, HIDDEN, HIDDEN}, {NONE, NONE, 2, 4},
            {NONE, NONE, NONE, NONE}, {NONE, NONE, 2, 4}};
        for (int i = 0; i < want.length; i++) {
            for (int what = 0; what < 4; what++) {
                due("line(" + i + ", " + what + ")", x.line(i, what), want[i][what]);
            }
        }
        SlipLattice near = Check.of("size 9 9;core 0 0 1 0;core 1 0 1 0;core 0 1 0 1");
        rows("the very next one", near.line(0, 0), 1, near.line(0, 1), 1, near.line(1, 2), 0, near.line(1, 3), 1,
                near.line(2, 2), 0, near.line(2, 3), 1);
        rows("no such ones", x.line(6, 0), HIDDEN, x.line(-1, 0), HIDDEN, x.line(0, 4), HIDDEN, x.line(0, -1), HIDDEN,
                x.line(FAR, 0), HIDDEN, x.line(DEEP, 0), HIDDEN);
    }

    // Promise 27
    private static void stills() {
        due("by the stress", Check.of("size 3 3;core 0 0 1 0;stress -5 0;hold 0").stills(), 5);
        due("of the greatest", Check.of("size 9 9;core 0 0 -2 0;core 7 7 0 1;stress 9 11;rule 2").stills(), 18);
        due("just 99", Check.of("size 3 3;core 0 0 1 0;core 1 0 -1 0;rule 1;stress -1 0").stills(), 99);
        due("not by 99", Check.of("size 3 3;core 0 0 1 0;core 1 0 -1 0;rule 1").stills(), NONE);
        due("without a WAY", Check.of("size 3 3;core 0 0 1 1;stress 20 20").stills(), 0);
    }

    // Promise 28
    private static void undo() {
        SlipLattice x = Check.of(PAIR);
        due("none", x.undo(), NONE);
        x.move(0, 0, 0, 1);
        x.shift(2, 2, 3, 4);
        x.go(2);
        x.shake(5, 9);
        due("five acts", x.count(1), 5);
        rows("shaking", x.undo(), 4, x.rule(8), 2);
        rows("rounds, each", x.undo(), 3, x.rule(8), 1, x.count(2), 1, x.undo(), 2, x.rule(8), 0, x.count(2), 0);
        rows("the shift", x.link(1, 2, false, 1), 4, x.undo(), 1, x.link(1, 2, false, 1), 0, x.face(0, 1, 0), 1);
        rows("the move", x.undo(), 0, x.face(0, 0, 0), 1, x.face(0, 1, 0), 0, coreOf(x, 0, 0), 0, x.undo(), NONE);
        SlipLattice wide = Check.of("size 9 9;core 7 7 1 0");
        rows("at the far corner", wide.shift(8, 8, 1, 1), 10, wide.image(), 0, wide.move(7, 7, 0, 0), 3, wide.undo(), 1,
                wide.face(7, 7, 0), 1, wide.undo(), 0, wide.rule(7), 8, wide.back(), 0, wide.rule(7), 10);
        for (int i = 1; i <= 25; i++) {
            x.shift(0, 0, 1, 0);
        }
        due("the latest 20", x.count(1), 20);
        for (int i = 19; i >= 0; i--) {
            due("undo of 25", x.undo(), i);
        }
        rows("five stay", x.undo(), NONE, x.link(0, 0, false, 0), -4);
        x.shift(9, 9, 1, 1);
        x.move(3, 3, 0, 0);
        x.go(0);
        due("what was refused is no act", x.count(1), 0);
    }

    // Promises 29 and 30
    private static void imageAndBack() {
        SlipLattice x = Check.of("size 9 3;core 0 0 1 0;stress 20 0");
        due("no IMAGE", x.back(), NONE);
        x.go(2);
        rows("image", x.image(), 2, x.count(1), 2);
        x.go(4);
        x.shift(1, 1, 1, 1);
        rows("back", x.back(), 2, x.rule(8), 2, x.face(2, 0, 0), 1, x.count(1), 0, x.undo(), NONE, x.count(2), 2,
                x.rule(7), 3, x.log(1, 0), 1, x.log(2, 0), NONE);
        x.go(1);
        rows("once more", x.back(), 2, x.face(2, 0, 0), 1);
        x.go(1);
        rows("instead of the one ahead", x.image(), 3, x.go(1), 1, x.back(), 3, x.face(3, 0, 0), 1, x.rule(8), 3);
        x.undo();
        due("an image ahead of 40 rounds more", x.image(), 3);
        x.go(40);
        rows("the LOG, too", x.log(0, 3), 0, x.count(2), 40, x.back(), 3, x.count(2), 3, x.log(0, 0), 1, x.log(0, 3),
                1);
    }

    // Promise 31
    private static void status() {
        SlipLattice x = new SlipLattice();
        x.move(0, 0, 5, 5);
        x.go(99);
        x.shift(9, 9, 0, 0);
        x.shake(0, 0);
        x.set(9, 9);
        rows("no CRYSTAL, the first of several", x.status(0), 5, x.status(1), 0, x.status(2), 0, x.status(3), 0);
        x.text();
        x.path(0, 0);
        x.rid(0);
        x.undo();
        x.back();
        x.image();
        x.feed(-1, -1, -1, -1, -1);
        due("others are not told", x.status(0), 5);
        Check.retell(x, PAIR);
        x.shift(9, 9, 0, 0);
        x.move(1, 0, 9, 9);
        x.go(0);
        rows("nothing there", x.status(0), 5, x.status(1), 2, x.status(2), 1);
        rows("no such what", x.status(-1), NONE, x.status(4), NONE, x.status(FAR), NONE, x.status(DEEP), NONE);
    }

    private static void most(String text, int... want) {
        SlipLattice x = Check.of(text);
        for (int i = 0; i < want.length; i++) {
            due("most(" + i + ") of " + text, x.most(i), want[i]);
        }
    }

    // Promise 32
    private static void most() {
        most("size 3 3", 0, NONE, NONE, NONE, 0, 0, 0, 0);
        most("size 3 3;core 1 1 -2 1", 1, 1, 0, NONE, 0, 2, 2, 0);
        // numbers: 0 at 5, 0; 1 at 2, 1; 2 at 5, 1; 3 at 2, 3; 4 at 5, 4; 5 at 6, 5
        most("size 9 9;core 2 1 1 1;core 2 3 1 1;core 5 0 1 1;core 5 1 -1 -1;core 5 4 1 1;core 6 5 2 -1",
                2, 2, 0, 2, 1, 7, 2, 5);
        most("size 9 9;core 0 0 1 0;core 4 0 0 1;core 6 6 2 0;core 7 0 1 1", 1, 0, 0, 18, 9, 8, 2, 0);
        most("size 9 9;core 0 0 1 0;core 3 3 -2 0;core 6 6 0 1;rule 2;stress 10 10", 1, 0, 1, 1, 18, 7, 2, 0);
        most("size 9 9;core 1 7 0 1;core 6 0 1 0;core 7 2 1 0", 1, 1, 0, 1, 5, 8, 1, 0);
        // 1 and 2 are the nearest
        most("size 9 9;core 0 0 1 1;core 4 4 1 1;core 6 5 1 1", 1, 0, 0, 18, 5, 7, 1, 0);
        // both pairs are as near: 0 and 1, 1 and 2
        most("size 9 2;core 0 0 0 1;core 2 0 0 1;core 4 0 0 -1", 1, 0, 0, 1, 4, 2, 1, 3);
        SlipLattice x = Check.of(PAIR);
        rows("no such what", x.most(-1), NONE, x.most(8), NONE, x.most(FAR), NONE, x.most(DEEP), NONE);
    }

    // Promise 33
    private static void count() {
        SlipLattice x = Check.of(PAIR);
        Check.feed(x, "abc");
        x.go(3);
        x.shift(0, 0, 1, 1);
        rows("count", x.count(0), 3, x.count(1), 4, x.count(2), 3, x.count(3), NONE, x.count(-1), NONE,
                x.count(FAR), NONE, x.count(DEEP), NONE);
    }
}
