/** Each sentence of the document that names a bound, behind the text: at the bound and one step beyond it. */
public final class BoundTest {
    private static final String EMPTY = "size 4 3";
    private static final String LEAST = "size 2 2;core 0 0 1 0";
    private static final String PAIR = "size 4 3;core 0 0 1 0;core 2 0 -1 0;hold 0";
    private static final String SPREAD = "size 9 9;core 2 2 0 1;core 4 4 1 0;core 6 6 0 -1";
    /** One core glides out at the right edge in eight rounds. */
    private static final String RUNNER = "size 9 9;core 0 0 1 0;stress 20 0";
    /** Both glide in each round, for ever. */
    private static final String RESTLESS = "size 4 4;core 0 0 1 0;core 1 1 -1 0;rule 1";
    /** It rests behind 83 rounds. */
    private static final String LONG = "size 9 9;core 5 2 1 0;core 5 7 1 0;core 1 0 0 -1;core 7 1 -1 0;core 3 6 -1 0"
            + ";core 6 4 1 0;core 7 5 0 -2;core 6 7 -2 0;core 4 5 -1 0;stress 16 3;hold 14;rule 1";
    private static final String TEN = "size 9 9;core 0 0 1 1;core 2 0 1 1;core 4 0 1 1;core 6 0 1 1;core 0 2 1 1"
            + ";core 2 2 1 1;core 4 2 1 1;core 6 2 1 1;core 0 4 1 1;core 2 4 1 1";

    private BoundTest() {
    }

    public static void main(String[] args) {
        noCrystal();
        noCrystalRefuses();
        rule();
        slippedLinks();
        roundsGone();
        core();
        forcesAreCut();
        forcesAtNothing();
        face();
        link();
        linksOfCoresTold();
        box();
        boxesOfShifted();
        halved();
        halves();
        pathSites();
        pathLeadsOut();
        pathLetters();
        gone();
        moveGlidesOrClimbs();
        moveOut();
        moveMeets();
        moveRefused();
        moveTwelve();
        moveTwelveEachWay();
        goes();
        holdOfRound();
        outAtEachEdge();
        faceWithAnotherVector();
        log();
        logOfForty();
        logOfEachRow();
        shift();
        shiftRefused();
        shake();
        draws();
        drawsWithoutWay();
        set();
        wall();
        wallsAtTheRim();
        rid();
        meets();
        ahead();
        rests();
        layer();
        line();
        stills();
        undoOfTwenty();
        undoOfEach();
        linksOfEachSite();
        image();
        back();
        status();
        most();
        energyIsCut();
        count();
        tallOnes();
        wideOnes();
        pathsOverShifted();
        lastCall();
        Check.finish("BoundTest");
    }

    private static SlipLattice says(String sentence, String crystal, String rows) {
        return Script.says(sentence, crystal, rows);
    }

    private static String forEach(int from, int to, String row) {
        StringBuilder rows = new StringBuilder();
        for (int i = from; i <= to; i++) {
            rows.append(row.replace("#", String.valueOf(i))).append('\n');
        }
        return rows.toString();
    }

    // Promise 1
    private static void noCrystal() {
        says("no CRYSTAL", "", forEach(-2, 14, "rule(#) HIDDEN") + forEach(-1, 6, "core(0, #) throws")
                + forEach(-1, 3, "face(0, 0, #) HIDDEN link(0, 0, true, #) HIDDEN link(0, 0, false, #) HIDDEN")
                + forEach(-1, 4, "box(0, 0, 1, 1, #) HIDDEN") + forEach(-2, 4, "halved(#, 0) NONE halved(NONE, #) NONE")
                + forEach(-1, 5, "gone(#) HIDDEN log(0, #) NONE wall(0, #) NONE ahead(0, #) HIDDEN"
                + " ahead(1, #) HIDDEN"));
        says("no CRYSTAL", "", forEach(0, 10, "rid(#) NONE meets(#, 0) NONE") + forEach(-1, 4, "layer(0, #) HIDDEN"
                + " line(0, #) HIDDEN")
                + forEach(-1, 8, "most(#) NONE") + "rests() NONE stills() NONE undo() NONE image() NONE back() NONE"
                + " count(0) 0 count(1) 0 count(2) 0 fault() 0 text() NONE status(0) 0 status(1) 0 status(2) 0"
                + " status(3) 0");
        says("no SITE without a CRYSTAL: the TAPE stays", "", "tape \"q\" path(0, 0) NONE count(0) 1 path(-1, 0) NONE");
    }

    private static void noCrystalRefuses() {
        says("no CRYSTAL ahead of all else", "", "move(-1, -1, 9, 9) NONE status(0) 1 go(0) NONE status(0) 2"
                + " shift(-1, -1, 0, 0) NONE status(0) 3 shake(0, 0) NONE status(0) 4 set(9, 999) HIDDEN status(0) 5"
                + " move(0, 0, 0, 0) NONE go(1) NONE shift(0, 0, 1, 1) NONE shake(1, 1) NONE set(0, 0) HIDDEN"
                + " status(0) 10 status(1) 0 status(2) 0 status(3) 0 count(1) 0");
    }

    // Promise 6
    private static void rule() {
        says("rule of the least one", LEAST, "rule(0) 2 rule(1) 2 rule(2) 0 rule(3) 0 rule(4) 10 rule(5) 0 rule(6) 1"
                + " rule(7) 1 rule(8) 0 rule(9) 1 rule(10) 0 rule(11) 50 rule(12) 1 rule(13) 0 rule(-1) HIDDEN"
                + " rule(14) HIDDEN rule(FAR) HIDDEN rule(DEEP) HIDDEN");
        says("rule of one without CORES", "size 9 9", "rule(0) 9 rule(1) 9 rule(6) 0 rule(7) 0 rule(9) 0 rule(10) 0"
                + " rule(11) 0 rule(12) 0 rule(13) 0");
        says("CORES without a WAY",
                "size 4 4;core 0 0 1 0;core 1 0 0 1;core 2 0 1 1;core 0 1 -2 1;core 1 2 0 -2;core 2 2 -1 0",
                "rule(13) 2");
        says("the sum round all", "size 9 9;core 0 0 2 -2;core 7 7 2 -2;core 0 7 1 0;core 7 0 0 1", "rule(9) 5"
                + " rule(10) -3");
        says("what went out is not in it", LEAST, "move(0, 0, 0, 0) 3 rule(9) 0 rule(10) 0 rule(6) 0");
    }

    private static void slippedLinks() {
        says("SLIPPED LINKS: none, all, none", "size 2 2", "rule(7) 0 shift(0, 0, 1, 1) 2 rule(7) 2 shift(1, 1, 1, 1) 4"
                + " rule(7) 4 rule(12) 1 wall(0, 0) 4 shift(1, 0, 1, 1) 2 rule(7) 2 shift(0, 1, 1, 1) 0 rule(7) 0"
                + " rule(12) 0 wall(0, 0) NONE");
        // (1, 0) of a LINK upwards, (0, 1) of one to the right are SLIPPED ones
        says("SLIPPED by its own kind of STEP", "size 2 2", "shift(1, 1, 1, -1) 2 link(1, 0, true, 0) 1"
                + " link(1, 0, true, 1) 0 shift(1, 1, -2, 2) 2 link(0, 1, false, 0) 0 link(0, 1, false, 1) 1");
        says("SLIPPED by one number alone", "size 2 2", "shift(1, 1, 1, 0) 2 undo() 0 shift(1, 1, 0, 1) 2 undo() 0"
                + " rule(7) 0");
    }

    // Promise 6, 8: UNDONE ones not
    private static void roundsGone() {
        says("ROUNDS gone", RUNNER, "rule(8) 0 go(1) 1 rule(8) 1 go(40) 7 rule(8) 41 undo() 19 rule(8) 40"
                + " shift(0, 0, 1, 1) 10 rule(8) 40 undo() 19 undo() 18 rule(8) 39 go(2) 0 rule(8) 41 ahead(5, 0) 0"
                + " rule(8) 41");
    }

    // Promise 7
    private static void core() {
        says("core", "size 4 3;core 2 1 1 1;core 0 0 -2 0", "core(-1, 0) throws core(0, 0) 0 core(0, 1) 0 core(0, 2) -2"
                + " core(0, 3) 0 core(0, 4) 0 core(1, 0) 2 core(1, 1) 1 core(1, 2) 1 core(1, 3) 1 core(1, 4) NONE"
                + " core(1, 5) 0 core(2, 0) throws core(0, -1) throws core(0, 6) throws core(FAR, 0) throws"
                + " core(DEEP, 0) throws core(0, FAR) throws core(0, DEEP) throws core(2, 9) throws status(1) 0"
                + " status(2) 0");
        says("core of none", EMPTY, "core(0, 0) throws core(-1, 0) throws core(0, 9) throws");
        SlipLattice x = says("CORES that went are no such ones", LEAST, "core(0, 0) 0 move(0, 0, 0, 1) 3"
                + " core(0, 0) throws undo() 0 core(0, 0) 0");
        Script.goOn("nor those of another CRYSTAL", x, "tape \"size 3 3\" text() 0 core(0, 0) throws");
        says("numbered by Y, then by X", "size 9 9;core 7 7 1 1;core 0 7 1 1;core 7 0 1 1;core 0 0 1 1;core 3 1 1 1",
                "core(0, 0) 0 core(0, 1) 0 core(1, 0) 7 core(1, 1) 0 core(2, 0) 3 core(2, 1) 1 core(3, 0) 0"
                + " core(3, 1) 7 core(4, 0) 7 core(4, 1) 7");
    }

    private static void forcesAreCut() {
        // a 3, b 2: 15000 by 169, 100 by 5, 180 by 13
        says("rule 0 cut towards 0", "size 9 9;core 0 0 1 0;core 3 2 1 0", "core(0, 5) -88 core(1, 5) 88 set(3, 2) 0"
                + " core(0, 5) -13 core(1, 5) 13");
        // a 2, b 1: 100 by 3
        says("rule 1 cut towards 0", "size 9 9;core 0 0 0 1;core 1 2 0 1;rule 1", "core(0, 5) -33 core(1, 5) 33");
        // twice 200 by 3, each cut: 66 and 66, not 133
        says("each cut", "size 9 9;core 0 0 2 0;core 2 1 1 0;core 1 2 1 0;rule 1", "core(0, 5) -132");
        says("each cut, and then the stress", "size 9 9;core 0 0 2 0;core 2 1 1 0;core 1 2 1 0;rule 1;stress 20 -20",
                "core(0, 5) -92");
        // the greatest ones: vectors of 2, next to one another
        says("the greatest of two", "size 9 9;core 0 0 2 0;core 1 0 -2 0;stress 20 20", "core(0, 5) 4040"
                + " core(1, 5) -4040");
        // 4 against -2, next to one another
        says("added VECTORS", "size 4 2;core 0 0 2 0;core 1 0 2 0;core 2 0 -2 0", "move(0, 0, 0, 0) 0 core(0, 5) 8000"
                + " core(1, 5) -8000");
    }

    private static void forcesAtNothing() {
        says("a is 0", "size 9 9;core 3 0 1 0;core 3 2 1 0", "core(0, 5) 0 core(1, 5) 0 set(3, 1) 0 core(0, 5) 0"
                + " core(1, 5) 0 set(3, 2) 1 core(0, 5) 0 core(1, 5) 0");
        says("a and b alike", "size 9 9;core 3 0 1 0;core 5 2 1 0", "core(0, 5) 0 core(1, 5) 0 set(3, 1) 0"
                + " core(0, 5) -25 core(1, 5) 25");
        // a 1, b 2: 1000 times 1 times -3 by 25
        says("b above a", "size 9 9;core 3 0 1 0;core 4 2 1 0", "core(0, 5) 120 core(1, 5) -120");
        says("another WAY", "size 9 9;core 3 0 1 0;core 4 0 0 1", "core(0, 5) 0 core(1, 5) 0");
        says("one without a WAY pulls, and isn't pulled", "size 9 9;core 3 0 1 0;core 4 0 1 1;stress 20 20;rule 1",
                "core(0, 5) -80 core(1, 5) 0");
        says("alone, by the stress of its WAY", "size 9 9;core 3 0 -2 0;stress 20 7", "core(0, 5) -40 set(0, -20) 20"
                + " core(0, 5) 40 set(0, 0) -20 core(0, 5) 0");
        says("alone, by the stress of its WAY", "size 9 9;core 3 0 0 -2;stress 7 20", "core(0, 5) -40 set(1, -20) 20"
                + " core(0, 5) 40 set(1, 0) -20 core(0, 5) 0");
    }

    // Promise 8
    private static void face() {
        says("face", "size 4 3;core 2 1 2 -1;core 0 0 0 1", "face(2, 1, 0) 2 face(2, 1, 1) -1 face(2, 1, 2) 1"
                + " face(0, 0, 0) 0 face(0, 0, 1) 1 face(0, 0, 2) 0 face(1, 1, 0) 0 face(1, 1, 1) 0 face(1, 1, 2) NONE"
                + " face(3, 1, 0) HIDDEN face(2, 2, 0) HIDDEN face(3, 1, 2) HIDDEN face(2, 2, 2) HIDDEN"
                + " face(-1, 0, 0) HIDDEN face(0, -1, 0) HIDDEN face(0, 0, -1) HIDDEN face(0, 0, 3) HIDDEN"
                + " face(FAR, 0, 0) HIDDEN face(0, FAR, 0) HIDDEN face(DEEP, 0, 2) HIDDEN face(0, DEEP, 2) HIDDEN"
                + " face(0, 0, FAR) HIDDEN face(0, 0, DEEP) HIDDEN");
        says("face of the greatest one", "size 9 9;core 7 7 1 1", "face(7, 7, 2) 0 face(8, 7, 2) HIDDEN"
                + " face(7, 8, 2) HIDDEN");
        says("face of the least one", LEAST, "face(0, 0, 2) 0 face(1, 0, 2) HIDDEN face(0, 1, 2) HIDDEN");
    }

    // Promise 9
    private static void link() {
        says("LINKS to the right", EMPTY, "link(0, 0, false, 0) 1 link(2, 0, false, 0) 1 link(3, 0, false, 0) HIDDEN"
                + " link(2, 2, false, 0) 1 link(2, 2, false, 1) 0 link(2, 3, false, 0) HIDDEN"
                + " link(-1, 0, false, 0) HIDDEN link(0, -1, false, 0) HIDDEN link(0, 0, false, -1) HIDDEN"
                + " link(0, 0, false, 2) HIDDEN link(FAR, 0, false, 0) HIDDEN link(0, FAR, false, 0) HIDDEN");
        says("LINKS upwards", EMPTY, "link(0, 0, true, 0) 0 link(3, 0, true, 1) 1 link(4, 0, true, 0) HIDDEN"
                + " link(3, 1, true, 0) 0 link(3, 1, true, 1) 1 link(3, 2, true, 0) HIDDEN link(-1, 0, true, 0) HIDDEN"
                + " link(0, -1, true, 0) HIDDEN link(0, 0, true, -1) HIDDEN link(0, 0, true, 2) HIDDEN"
                + " link(DEEP, 0, true, 0) HIDDEN link(0, DEEP, true, 0) HIDDEN");
        says("LINKS of the greatest one", "size 9 9", "link(7, 8, false, 0) 1 link(8, 8, false, 0) HIDDEN"
                + " link(8, 7, true, 1) 1 link(8, 8, true, 1) HIDDEN");
    }

    // STEPS of all LINKS upwards from SITES x, Y with x no more than its X
    private static void linksOfCoresTold() {
        says("each core told", "size 5 4;core 2 1 2 -1", "link(0, 1, true, 0) -2 link(0, 1, true, 1) 2"
                + " link(2, 1, true, 0) -2 link(2, 1, true, 1) 2 link(3, 1, true, 0) 0 link(3, 1, true, 1) 1"
                + " link(2, 0, true, 0) 0 link(2, 2, true, 0) 0 link(2, 1, false, 0) 1 link(2, 2, false, 0) 1"
                + " rule(7) 3");
        says("two in a row", "size 5 4;core 2 1 2 -1;core 0 1 -2 1", "link(0, 1, true, 0) 0 link(0, 1, true, 1) 1"
                + " link(1, 1, true, 0) -2 rule(7) 2");
        says("at the last FACE", "size 5 4;core 3 2 1 0", "link(3, 2, true, 0) -1 link(4, 2, true, 0) 0 rule(7) 4");
    }

    // Promise 10
    private static void box() {
        String crystal = "size 5 4;core 0 0 1 2;core 3 2 -2 1;core 1 1 0 1";
        says("the BOX of all, of one FACE", crystal, "box(0, 0, 4, 3, 0) -1 box(0, 0, 4, 3, 1) 4 box(0, 0, 4, 3, 2) 3"
                + " box(0, 0, 4, 3, 3) 14 box(3, 2, 4, 3, 0) -2 box(3, 2, 4, 3, 1) 1 box(3, 2, 4, 3, 2) 1"
                + " box(3, 2, 4, 3, 3) 4 box(0, 0, 1, 1, 2) 1");
        says("CORES at its rim", crystal, "box(1, 1, 2, 2, 2) 1 box(0, 0, 3, 2, 2) 2 box(1, 1, 4, 3, 2) 2"
                + " box(2, 1, 4, 3, 2) 1 box(1, 2, 4, 3, 2) 1 box(0, 0, 1, 3, 2) 1 box(0, 0, 4, 1, 2) 1"
                + " box(1, 0, 3, 3, 2) 1 box(0, 1, 4, 2, 2) 1");
        says("x0 below x1, y0 below y1", crystal, "box(1, 0, 1, 3, 3) HIDDEN box(2, 0, 1, 3, 3) HIDDEN"
                + " box(0, 1, 4, 1, 3) HIDDEN box(0, 2, 4, 1, 3) HIDDEN box(0, 0, 1, 3, 3) 8 box(0, 0, 4, 1, 3) 10");
        says("no such SITES", crystal, "box(-1, 0, 4, 3, 3) HIDDEN box(0, -1, 4, 3, 3) HIDDEN box(0, 0, 5, 3, 3) HIDDEN"
                + " box(0, 0, 4, 4, 3) HIDDEN box(4, 3, 5, 4, 3) HIDDEN box(DEEP, 0, 4, 3, 3) HIDDEN"
                + " box(0, 0, FAR, 3, 3) HIDDEN box(0, DEEP, 4, FAR, 3) HIDDEN");
        says("no such what", crystal, "box(0, 0, 4, 3, -1) HIDDEN box(0, 0, 4, 3, 4) HIDDEN box(0, 0, 4, 3, FAR) HIDDEN"
                + " box(0, 0, 4, 3, DEEP) HIDDEN");
        says("LINKS round the greatest one", "size 9 9", "box(0, 0, 8, 8, 3) 32 box(0, 0, 8, 8, 2) 0"
                + " box(0, 0, 9, 8, 3) HIDDEN");
    }

    /** By no shift a sum round a box changes, wherever the slipped links stand. */
    private static void boxesOfShifted() {
        SlipLattice x = Check.of("size 4 4;core 0 0 1 2;core 2 1 -2 1;core 1 2 0 1");
        int[][] cores = {{0, 0, 1, 2}, {2, 1, -2, 1}, {1, 2, 0, 1}};
        for (int i = 0; i < 16; i++) {
            x.shift(i % 4, i / 4, i % 7 - 3, 1 + i % 5);
        }
        for (int i = 0; i < 36; i++) {
            int x0 = new int[] {0, 0, 0, 1, 1, 2}[i % 6];
            int x1 = new int[] {1, 2, 3, 2, 3, 3}[i % 6];
            int y0 = new int[] {0, 0, 0, 1, 1, 2}[i / 6];
            int y1 = new int[] {1, 2, 3, 2, 3, 3}[i / 6];
            int[] sum = new int[3];
            for (int[] c : cores) {
                if (c[0] >= x0 && c[0] < x1 && c[1] >= y0 && c[1] < y1) {
                    sum[0] += c[2];
                    sum[1] += c[3];
                    sum[2]++;
                }
            }
            for (int what = 0; what < 3; what++) {
                Check.due("box " + i + ", " + what, x.box(x0, y0, x1, y1, what), sum[what]);
            }
        }
    }

    // Promise 11
    private static void halved() {
        says("halved", "size 4 3;core 0 0 1 0", "halved(NONE, 0) 3 halved(NONE, FAR) 3 halved(NONE, -9) 3"
                + " halved(0, 0) 0 halved(0, 1) 0 halved(0, 2) 3 halved(0, 3) 2 halved(2, 0) 0 halved(2, 1) 0"
                + " halved(2, 2) 1 halved(2, 3) 1 halved(3, 0) NONE halved(-2, 0) NONE halved(0, 4) NONE"
                + " halved(0, -1) NONE halved(FAR, 0) NONE halved(DEEP, 0) NONE halved(0, FAR) NONE");
        says("no CORES", EMPTY, "halved(NONE, 0) 0 halved(0, 0) NONE halved(-2, 0) NONE");
        says("the sum round all is (0, 0)", PAIR, "halved(NONE, 0) 0 halved(0, 0) NONE");
        says("one number of it alone is", "size 3 2;core 0 0 1 1;core 1 0 -1 0", "halved(NONE, 0) 2 halved(1, 0) 0"
                + " halved(1, 2) 1");
        says("one number of it alone is", "size 3 2;core 0 0 1 1;core 1 0 0 -1", "halved(NONE, 0) 2 halved(1, 0) 0"
                + " halved(1, 2) 1");
        says("one FACE", LEAST, "halved(NONE, 0) 1 halved(0, 0) 0 halved(0, 1) 0 halved(0, 2) 1 halved(0, 3) 1"
                + " halved(1, 0) NONE");
        says("the most BOXES", "size 9 9;core 7 7 1 0", "halved(NONE, 0) 7 halved(6, 0) 7 halved(6, 1) 7 halved(6, 2) 8"
                + " halved(6, 3) 8 halved(7, 0) NONE");
    }

    private static void halves() {
        // 3 FACES: 1 and 2; 2 FACES: 1 and 1
        says("half of them, cut", "size 4 2;core 2 0 1 0", "halved(NONE, 0) 3 halved(1, 0) 1 halved(1, 2) 3"
                + " halved(2, 0) 2 halved(2, 2) 3");
        says("half of them, cut, along y", "size 2 4;core 0 2 1 0", "halved(NONE, 0) 3 halved(1, 1) 1 halved(1, 3) 3"
                + " halved(2, 1) 2 halved(2, 3) 3");
        says("7 FACES: 3 and 4", "size 8 2;core 3 0 1 0", "halved(1, 0) 3 halved(1, 2) 7");
        says("7 FACES: 3 and 4", "size 8 2;core 2 0 1 0", "halved(1, 0) 0 halved(1, 2) 3");
        says("both alike: along x", "size 3 3;core 1 1 1 0", "halved(1, 0) 1 halved(1, 1) 0 halved(2, 0) 1"
                + " halved(2, 1) 1");
        says("the wider one, by 1", "size 3 4;core 1 2 1 0", "halved(1, 0) 0 halved(1, 1) 1 halved(1, 2) 2"
                + " halved(1, 3) 3");
        says("the wider one, by 1", "size 4 3;core 2 1 1 0", "halved(1, 0) 1 halved(1, 1) 0 halved(1, 2) 3"
                + " halved(1, 3) 2");
        says("the first half, if both have one", "size 3 2;core 0 0 1 0;core 1 0 1 0", "halved(1, 0) 0 halved(1, 2) 1");
        says("the other one, if the first's sum is (0, 0)", "size 5 2;core 0 0 1 0;core 1 0 -1 0;core 2 0 1 0",
                "halved(1, 0) 2 halved(2, 0) 2 halved(2, 2) 3");
    }

    // Promise 12
    private static void pathSites() {
        says("SITES of a path", EMPTY, "tape \"r\" path(4, 0) NONE path(0, 3) NONE path(-1, 0) NONE path(0, -1) NONE"
                + " path(FAR, FAR) NONE path(DEEP, DEEP) NONE count(0) 1 gone(2) HIDDEN path(3, 2) -2 count(0) 1"
                + " path(2, 2) 0 count(0) 0 gone(3) 3 gone(4) 2 tape \"l\" path(3, 2) 0 tape \"u\" path(3, 1) 0");
        says("NONE ahead of all else", EMPTY, "tape \"xyz\" path(4, 0) NONE path(0, 0) -2");
        says("a path of nothing", EMPTY, "path(3, 2) 1 gone(0) 0 gone(1) 0 gone(2) 0 gone(3) 3 gone(4) 2");
        says("it ends where it began", EMPTY, "tape \"rl\" path(0, 0) 1 tape \"rul\" path(0, 0) 0 tape \"ruld\""
                + " path(0, 0) 1 tape \"rrru\" path(0, 0) 0 gone(3) 3 gone(4) 1");
    }

    private static void pathLeadsOut() {
        says("out on the right", EMPTY, "tape \"rrr\" path(0, 0) 0 tape \"rrrr\" path(0, 0) -5 count(0) 4 gone(2) 3");
        says("out above", EMPTY, "tape \"uu\" path(0, 0) 0 tape \"uuu\" path(0, 0) -4 count(0) 3 gone(2) 2");
        says("out on the left", EMPTY, "tape \"lll\" path(3, 0) 0 tape \"llll\" path(3, 0) -5 tape \"l\""
                + " path(0, 1) -2");
        says("out below", EMPTY, "tape \"dd\" path(0, 2) 0 tape \"ddd\" path(0, 2) -4 tape \"d\" path(1, 0) -2");
        says("out, and in again", EMPTY, "tape \"lr\" path(0, 0) -2 tape \"du\" path(0, 0) -2 tape \"rl\" path(3, 0) -2"
                + " tape \"ud\" path(0, 2) -2");
    }

    private static void pathLetters() {
        String most = "rl".repeat(60);
        says("120 at most", EMPTY, "tape \"" + most + "\" path(0, 0) 1 count(0) 0 gone(2) 120");
        says("the 121st", EMPTY, "tape \"" + most + "r\" path(0, 0) -122 count(0) 121 gone(2) HIDDEN end(120) true"
                + " path(0, 0) 1 gone(2) 120");
        says("the 121st of many", EMPTY, "tape \"" + "rl".repeat(150) + "\" count(0) 300 path(0, 0) -122 count(0) 300");
        says("the 120th is none", EMPTY, "tape \"" + most.substring(1) + "xrl\" path(1, 0) -121");
        says("the 121st is none", EMPTY, "tape \"" + most + "x\" path(0, 0) -122");
        says("119", EMPTY, "tape \"" + most.substring(1) + "\" path(1, 0) 0 gone(2) 119");
        for (int b = 1; b < 256; b++) {
            SlipLattice x = Check.of("size 3 3");
            x.feed(b << 24, 0, 0, 0, 0);
            boolean letter = b == 'r' || b == 'u' || b == 'l' || b == 'd';
            Check.due("path of the byte " + b, x.path(1, 1), letter ? 0 : -2);
            Check.due("the tape behind it", x.count(0), letter ? 0 : 1);
        }
        says("nothing between", EMPTY, "tape \"r u\" path(0, 0) -3 tape \" r\" path(0, 0) -2 tape \"r \" path(0, 0) -3"
                + " tape \"r;u\" path(0, 0) -3 gone(0) HIDDEN");
    }

    // Promise 13
    private static void gone() {
        SlipLattice x = says("gone", PAIR, "gone(0) HIDDEN tape \"x\" path(0, 0) -2 gone(0) HIDDEN path(9, 9) NONE"
                + " gone(0) HIDDEN tape \"u\" path(0, 0) 0 gone(-1) HIDDEN gone(0) 0 gone(1) 1 gone(2) 1 gone(3) 0"
                + " gone(4) 1 gone(5) HIDDEN gone(FAR) HIDDEN gone(DEEP) HIDDEN");
        Script.goOn("it stays as it was told", x, "shift(0, 0, 9, 9) 4 gone(0) 0 undo() 0 image() 0 back() 0 gone(1) 1"
                + " go(1) 2 gone(2) 1 tape \"z\" path(0, 0) -2 gone(2) 1");
        Script.goOn("a text with a FAULT", x, "tape \"size 1 1\" text() NONE gone(2) 1");
        Script.goOn("none since text()", x, "tape \"size 4 3\" text() 0 gone(0) HIDDEN gone(2) HIDDEN gone(4) HIDDEN");
        says("LINKS, each time", EMPTY, "tape \"rlrl\" path(0, 0) 1 gone(2) 4 gone(0) 0");
    }

    // Promise 14
    private static void moveGlidesOrClimbs() {
        String rows = "move(2, 2, @, 0) 0 undo() 0 move(2, 2, @, 1) 1 undo() 0 move(2, 2, @, 2) 0 undo() 0"
                + " move(2, 2, @, 3) 1";
        String other = "move(2, 2, @, 0) 1 undo() 0 move(2, 2, @, 1) 0 undo() 0 move(2, 2, @, 2) 1 undo() 0"
                + " move(2, 2, @, 3) 0";
        says("along x", "size 6 6;core 2 2 -1 0", rows.replace("@", "0"));
        says("along x, as a part", "size 6 6;core 2 2 -1 0", rows.replace("@", "1"));
        says("along y", "size 6 6;core 2 2 0 2", other.replace("@", "0"));
        says("along y, as a part", "size 6 6;core 2 2 0 2", other.replace("@", "2"));
        says("the first number alone", "size 6 6;core 2 2 1 -1", rows.replace("@", "1"));
        says("the second number alone", "size 6 6;core 2 2 1 -1", other.replace("@", "2"));
        says("without a WAY it always CLIMBS", "size 6 6;core 2 2 1 -1", forEach(0, 3, "move(2, 2, 0, #) 1 undo() 0"));
        says("where it goes", "size 6 6;core 2 2 1 -1", "move(2, 2, 0, 0) 1 face(3, 2, 0) 1 undo() 0 move(2, 2, 0, 1) 1"
                + " face(2, 3, 1) -1 undo() 0 move(2, 2, 0, 2) 1 face(1, 2, 0) 1 undo() 0 move(2, 2, 0, 3) 1"
                + " face(2, 1, 1) -1 face(2, 2, 2) NONE rule(6) 1");
    }

    private static void moveOut() {
        says("out on the right", LEAST, "move(0, 0, 0, 0) 3 rule(6) 0 link(1, 0, true, 0) -1 link(1, 0, true, 1) 1"
                + " link(0, 0, true, 0) -1 rule(7) 2");
        says("out above", LEAST, "move(0, 0, 0, 1) 3 rule(6) 0 link(0, 1, false, 0) 2 link(0, 1, false, 1) 0"
                + " rule(7) 2");
        says("out on the left", LEAST, "move(0, 0, 0, 2) 3 rule(6) 0 link(0, 0, true, 0) 0 link(0, 0, true, 1) 1"
                + " rule(7) 0");
        says("out below", LEAST, "move(0, 0, 0, 3) 3 rule(6) 0 link(0, 0, false, 0) 0 link(0, 0, false, 1) 0"
                + " rule(7) 2");
        says("a part out", "size 2 2;core 0 0 1 -2", "move(0, 0, 2, 0) 3 rule(6) 1 face(0, 0, 0) 1 face(0, 0, 1) 0"
                + " move(0, 0, 1, 3) 3 rule(6) 0");
        says("one FACE ahead of the edge", "size 4 4;core 1 1 1 1", forEach(0, 3, "move(1, 1, 0, #) 1 undo() 0"));
        says("at the edges", "size 9 9;core 0 0 1 1;core 7 7 1 1", "move(0, 0, 0, 2) 3 undo() 0 move(0, 0, 0, 3) 3"
                + " undo() 0 move(7, 7, 0, 0) 3 undo() 0 move(7, 7, 0, 1) 3 undo() 0 move(0, 0, 0, 0) 1 undo() 0"
                + " move(7, 7, 0, 3) 1 rule(6) 2");
    }

    private static void moveMeets() {
        says("CANCELLED by a glide", "size 4 4;core 0 0 1 0;core 1 0 -1 0", "move(0, 0, 0, 0) 2 rule(6) 0 rule(9) 0");
        says("CANCELLED by a climb", "size 4 4;core 0 0 1 0;core 0 1 -1 0", "move(0, 0, 0, 1) 2 rule(6) 0");
        says("CANCELLED by a part", "size 4 4;core 0 0 1 2;core 0 1 -1 0", "move(0, 0, 1, 1) 2 rule(6) 1"
                + " face(0, 0, 1) 2 face(0, 0, 0) 0");
        says("not quite", "size 4 4;core 0 0 1 0;core 1 0 -2 0", "move(0, 0, 0, 0) 0 rule(6) 1 face(1, 0, 0) -1");
        says("one number of two", "size 4 4;core 0 0 1 0;core 1 0 -1 1", "move(0, 0, 0, 0) 0 rule(6) 1 face(1, 0, 0) 0"
                + " face(1, 0, 1) 1");
        says("one number of two", "size 4 4;core 0 0 0 1;core 1 0 1 -1", "move(0, 0, 0, 0) 1 rule(6) 1 face(1, 0, 0) 1"
                + " face(1, 0, 1) 0");
        says("its own rest", "size 4 4;core 0 0 1 -1", "move(0, 0, 1, 0) 0 rule(6) 2 move(0, 0, 2, 0) 1 rule(6) 1"
                + " face(1, 0, 0) 1 face(1, 0, 1) -1");
    }

    private static void moveRefused() {
        SlipLattice x = says("no CORE there", "size 4 3;core 1 1 1 0", "move(0, 0, 0, 0) NONE move(3, 1, 0, 0) NONE"
                + " move(1, 2, 0, 0) NONE move(-1, 1, 0, 0) NONE move(1, -1, 0, 0) NONE move(FAR, 1, 0, 0) NONE"
                + " move(1, DEEP, 0, 0) NONE status(1) 7 move(0, 0, 9, 9) NONE status(1) 8 status(2) 0");
        Script.goOn("no such part or direction", x, "move(1, 1, -1, 0) NONE move(1, 1, 3, 0) NONE"
                + " move(1, 1, 0, -1) NONE move(1, 1, 0, 4) NONE move(1, 1, FAR, 0) NONE move(1, 1, DEEP, 0) NONE"
                + " move(1, 1, 0, FAR) NONE move(1, 1, 0, DEEP) NONE status(2) 8");
        Script.goOn("a part that is 0", x, "move(1, 1, 2, 0) NONE move(1, 1, 2, 1) NONE status(2) 10 status(0) 0"
                + " status(1) 8 status(3) 0");
        Script.goOn("nothing was done", x, "count(1) 0 face(1, 1, 0) 1 rule(7) 2 move(1, 1, 1, 0) 0 count(1) 1"
                + " move(2, 1, 1, 0) 3 move(2, 1, 1, 0) NONE status(1) 9");
        says("a first part that is 0", "size 4 3;core 1 1 0 1", "move(1, 1, 1, 0) NONE status(2) 1 move(1, 1, 2, 0) 1");
    }

    // there would be more than 12 CORES
    private static void moveTwelve() {
        SlipLattice x = says("12 CORES", TEN, "rule(6) 10 move(0, 0, 1, 1) 1 rule(6) 11 move(2, 0, 1, 1) 1 rule(6) 12"
                + " count(1) 2 status(3) 0");
        Script.goOn("the 13th", x, "move(4, 0, 1, 1) NONE rule(6) 12 status(3) 1 count(1) 2 face(4, 0, 0) 1"
                + " face(4, 1, 2) NONE move(4, 0, 2, 2) NONE status(3) 2");
        Script.goOn("out of bounds is the first of several", x, "move(4, 0, 1, 4) NONE move(4, 0, 3, 1) NONE"
                + " status(2) 2 status(3) 2 move(0, 0, 1, 0) NONE status(2) 3 status(3) 2");
        Script.goOn("a whole one is no more", x, "move(4, 0, 0, 1) 1 rule(6) 12 undo() 2");
        Script.goOn("a part that meets one is no more", x, "move(2, 2, 1, 3) 1 rule(6) 12 face(2, 1, 0) 2 undo() 2");
        Script.goOn("a part that goes out is no more", x, "move(4, 0, 1, 3) 3 rule(6) 12 status(3) 2");
        Script.goOn("with 11 there's room again", x, "move(0, 1, 0, 3) 1 rule(6) 11 move(6, 0, 1, 1) 1 rule(6) 12"
                + " move(6, 2, 1, 1) NONE status(3) 3");
        Script.goOn("all twelve are told", x, "core(11, 0) 2 core(11, 1) 4 core(12, 0) throws face(2, 4, 2) 11"
                + " box(0, 0, 8, 8, 2) 12 meets(1, 11) 11 meets(1, 12) NONE");
    }

    private static void moveTwelveEachWay() {
        SlipLattice x = says("12 CORES", TEN, "move(2, 0, 1, 0) 0 move(6, 2, 1, 2) 0 rule(6) 12");
        Script.goOn("no room on any side", x, "move(0, 2, 1, 0) NONE move(2, 4, 1, 1) NONE move(2, 2, 1, 2) NONE"
                + " move(2, 4, 2, 3) NONE status(3) 4 count(1) 2");
        Script.goOn("one on the left", x, "move(4, 0, 2, 0) NONE move(4, 0, 2, 2) 1 rule(6) 12 face(3, 0, 1) 1"
                + " undo() 2");
        Script.goOn("one on the right", x, "move(4, 2, 2, 2) NONE move(4, 2, 2, 0) 1 rule(6) 12 face(5, 2, 1) 1"
                + " undo() 2");
        x = says("12 CORES", TEN, "move(0, 0, 1, 1) 1 move(2, 4, 1, 3) 1 rule(6) 12");
        Script.goOn("one below", x, "move(0, 2, 1, 1) NONE move(0, 2, 1, 3) 1 rule(6) 12 face(0, 1, 0) 2 undo() 2");
        Script.goOn("one above", x, "move(2, 2, 1, 3) NONE move(2, 2, 1, 1) 1 rule(6) 12 face(2, 3, 0) 2 undo() 2");
        Script.goOn("out at the left, below", x, "move(0, 2, 1, 2) 3 rule(6) 12 move(4, 0, 1, 3) 3 rule(6) 12"
                + " status(3) 2");
    }

    // Promise 15
    private static void goes() {
        says("1 .. 40", RESTLESS, "go(0) NONE go(-1) NONE go(41) NONE go(FAR) NONE go(DEEP) NONE status(2) 5 rule(8) 0"
                + " count(1) 0 count(2) 0 go(1) 2 rule(8) 1 count(1) 1 go(40) 80 rule(8) 41 count(1) 20 status(2) 5"
                + " status(0) 0");
        says("without CORES", EMPTY, "go(40) 0 rule(8) 40 count(2) 40 count(1) 20 log(39, 0) 0 log(39, 3) 0");
        says("how many in all", PAIR, "go(3) 2 log(0, 0) 0 log(1, 0) 0 log(2, 0) 2");
    }

    // more than N of hold, without sign
    private static void holdOfRound() {
        says("just the hold", "size 4 3;core 1 0 1 0;stress 10 0", "go(1) 0 set(2, 9) 10 go(1) 1 face(2, 0, 0) 1");
        says("just the hold, below 0", "size 4 3;core 1 0 -1 0;stress 10 0", "go(1) 0 set(2, 9) 10 go(1) 1"
                + " face(0, 0, 0) -1");
        says("just the hold, along y", "size 3 4;core 0 1 0 1;stress 0 -10", "go(1) 0 set(2, 9) 10 go(1) 1"
                + " face(0, 0, 1) 1");
        says("hold 0", "size 4 3;core 1 0 1 0;hold 0", "go(1) 0 set(0, 1) 0 go(1) 1 set(0, -1) 1 go(1) 1"
                + " face(1, 0, 0) 1");
        says("hold 99", "size 4 3;core 1 0 1 0;core 2 0 -1 0;rule 1;hold 99;stress -1 0", "go(1) 0 set(0, 0) -1 go(1) 1"
                + " log(0, 1) 1");
        says("without a WAY", "size 4 3;core 1 0 1 1;stress 20 20;hold 0", "go(40) 0 face(1, 0, 0) 1");
    }

    private static void outAtEachEdge() {
        says("on the right", "size 2 2;core 0 0 1 0;stress 11 0", "go(1) 1 log(0, 0) 1 log(0, 1) 0 log(0, 2) 1"
                + " log(0, 3) 0 link(1, 0, true, 0) -1");
        says("on the left", "size 2 2;core 0 0 1 0;stress -11 0", "go(1) 1 log(0, 2) 1 link(0, 0, true, 0) 0"
                + " rule(7) 0");
        says("above", "size 2 2;core 0 0 0 1;stress 0 11", "go(1) 1 log(0, 2) 1 link(0, 1, false, 1) 1"
                + " link(0, 1, false, 0) 1");
        says("below", "size 2 2;core 0 0 0 1;stress 0 -11", "go(1) 1 log(0, 2) 1 link(0, 0, false, 1) -1"
                + " link(0, 0, false, 0) 1");
    }

    private static void faceWithAnotherVector() {
        says("its FACE has another VECTOR by then", "size 5 2;core 0 0 1 0;core 1 0 -2 0;hold 0", "go(1) 1"
                + " face(1, 0, 0) -1 log(0, 0) 1 log(0, 1) 0 log(0, 3) 1");
        says("it is gone by then", "size 5 2;core 1 0 1 0;core 2 0 -1 0;hold 0", "go(1) 1 log(0, 0) 1 log(0, 1) 1"
                + " log(0, 3) 0");
        // 0 and 1 come to the FACE between them and go; 2 is not touched
        says("two meet where none was", "size 5 2;core 0 0 1 0;core 2 0 -1 0;hold 0", "go(1) 2 log(0, 0) 2 log(0, 1) 1"
                + " log(0, 2) 0 log(0, 3) 0");
        // 0 leaves upwards, then 1 comes to where it was
        says("the FACE is empty by then", "size 5 4;core 1 0 0 1;core 2 0 1 0;stress -20 20", "go(1) 2 face(1, 1, 1) 1"
                + " face(1, 0, 0) 1 face(1, 0, 1) 0 log(0, 1) 0 log(0, 3) 2");
        // 0 comes to 1's FACE ahead of 1's turn
        says("they are one by then", "size 5 4;core 0 0 1 0;core 1 0 0 1;stress 20 20", "go(1) 1 face(1, 0, 0) 1"
                + " face(1, 0, 1) 1 log(0, 1) 0 log(0, 3) 1 go(9) 0");
    }

    // Promise 16
    private static void log() {
        says("log", PAIR, "log(0, 0) NONE count(2) 0 go(1) 2 count(2) 1 log(0, 0) 2 log(0, 1) 1 log(0, 2) 0 log(0, 3) 0"
                + " log(1, 0) NONE log(-1, 0) NONE log(0, -1) NONE log(0, 4) NONE log(FAR, 0) NONE log(DEEP, 0) NONE"
                + " log(0, FAR) NONE log(0, DEEP) NONE status(2) 0");
    }

    // the latest 40 ROUNDS
    private static void logOfForty() {
        SlipLattice x = says("39", RUNNER, "go(39) 8 count(2) 39 log(38, 0) 1 log(38, 3) 1 log(39, 0) NONE log(31, 2) 1"
                + " log(31, 3) 0 log(30, 0) 0");
        Script.goOn("40", x, "go(1) 0 count(2) 40 log(39, 0) 1 log(40, 0) NONE log(32, 2) 1");
        Script.goOn("41", x, "go(1) 0 count(2) 40 log(39, 0) 1 log(40, 0) NONE log(33, 2) 1 rule(8) 41");
        Script.goOn("47", x, "go(6) 0 count(2) 40 log(39, 0) 1 log(39, 2) 1 log(38, 0) 0 log(40, 0) NONE");
        Script.goOn("48", x, "go(1) 0 count(2) 40 log(39, 0) 0 log(39, 2) 0 rule(8) 48");
        Script.goOn("UNDONE, the LOG, too", x, "undo() 19 log(39, 2) 1 count(2) 40 rule(8) 47 undo() 18 log(38, 2) 1"
                + " log(39, 2) 0 log(39, 0) 1 rule(8) 46");
        says("80 and 81", RESTLESS, "go(40) 80 go(40) 80 count(2) 40 log(0, 0) 2 log(39, 0) 2 log(40, 0) NONE"
                + " set(2, 99) 10 go(1) 0 log(0, 0) 0 log(1, 0) 2 log(39, 0) 2 go(38) 0 log(39, 0) 2 log(38, 0) 0"
                + " go(1) 0 log(39, 0) 0");
    }

    /** Forty rounds that glide, then others in each of their places: all come back by undo and by back. */
    private static void logOfEachRow() {
        for (int from = 40; from <= 60; from += 20) {
            SlipLattice x = Check.of(RESTLESS);
            x.go(40);
            x.go(from - 20);
            Script.goOn("rounds without a glide", x, "set(2, 99) 10 go(20) 0 log(19, 0) 0 log(20, 0) 2 log(39, 0) 2");
            undoAll(x, 20);
            Script.goOn("undone", x, forEach(0, 39, "log(#, 0) 2 log(#, 3) 2") + "log(40, 0) NONE");
        }
        SlipLattice x = says("an image", RESTLESS, "go(40) 80 go(7) 14 image() 47 set(2, 99) 10 go(40) 0 log(0, 0) 0"
                + " log(39, 0) 0");
        Script.goOn("back", x, "back() 47" + forEach(0, 39, " log(#, 0) 2 log(#, 3) 2") + "log(40, 0) NONE rule(8) 47");
    }

    // Promise 17
    private static void shift() {
        says("the greatest ones", EMPTY, "shift(1, 1, 9, -9) 4 link(0, 1, false, 0) 10 link(0, 1, false, 1) -9"
                + " link(1, 1, true, 0) -9 link(1, 1, true, 1) 10 undo() 0 shift(1, 1, -9, 9) 4 link(1, 1, false, 0) 10"
                + " link(1, 1, false, 1) -9 rule(6) 0");
        says("one of both is 0", EMPTY, "shift(1, 1, 0, 1) 4 undo() 0 shift(1, 1, 1, 0) 4 undo() 0 shift(1, 1, 0, -9) 4"
                + " undo() 0 shift(1, 1, -9, 0) 4");
        says("corners have two LINKS, edges three", EMPTY, "shift(0, 0, 1, 1) 2 undo() 0 shift(3, 0, 1, 1) 2 undo() 0"
                + " shift(0, 2, 1, 1) 2 undo() 0 shift(3, 2, 1, 1) 2 undo() 0 shift(1, 0, 1, 1) 3 undo() 0"
                + " shift(1, 2, 1, 1) 3 undo() 0 shift(0, 1, 1, 1) 3 undo() 0 shift(3, 1, 1, 1) 3");
        says("to it more, from it less", EMPTY, "shift(1, 1, 2, 3) 4 link(0, 1, false, 0) 3 link(0, 1, false, 1) 3"
                + " link(1, 0, true, 0) 2 link(1, 0, true, 1) 4 link(1, 1, false, 0) -1 link(1, 1, false, 1) -3"
                + " link(1, 1, true, 0) -2 link(1, 1, true, 1) -2");
        says("there and back", EMPTY, "shift(1, 1, 9, 9) 4 shift(1, 1, -9, -9) 0 count(1) 2");
        says("again and again", EMPTY, forEach(1, 100, "shift(3, 2, 9, -9) 2") + "link(2, 2, false, 0) 901"
                + " link(2, 2, false, 1) -900 link(3, 1, true, 1) -899 rule(6) 0");
        for (int i = 0; i < 12; i++) {
            SlipLattice x = Check.of("size 4 3;core 0 0 1 2;core 2 1 -1 0");
            x.shift(i % 4, i / 4, 9, -9);
            Script.goOn("no loop changes by a shift of " + i % 4 + ", " + i / 4, x, "face(0, 0, 0) 1 face(0, 0, 1) 2"
                + " face(2, 1, 0) -1 face(2, 1, 1) 0 rule(6) 2 rule(9) 0 rule(10) 2 rule(11) 280 count(1) 1");
        }
    }

    private static void shiftRefused() {
        SlipLattice x = says("no such SITE", EMPTY, "shift(4, 0, 1, 1) NONE shift(0, 3, 1, 1) NONE"
                + " shift(-1, 0, 1, 1) NONE shift(0, -1, 1, 1) NONE shift(FAR, 0, 1, 1) NONE shift(0, DEEP, 1, 1) NONE"
                + " status(1) 6 shift(4, 0, 10, 10) NONE shift(4, 0, 0, 0) NONE status(1) 8 status(2) 0");
        Script.goOn("out of bounds", x, "shift(0, 0, 10, 0) NONE shift(0, 0, -10, 0) NONE shift(0, 0, 0, 10) NONE"
                + " shift(0, 0, 0, -10) NONE shift(0, 0, 10, 1) NONE shift(0, 0, 1, 10) NONE shift(0, 0, FAR, 1) NONE"
                + " shift(0, 0, 1, DEEP) NONE status(2) 8");
        Script.goOn("both 0", x, "shift(0, 0, 0, 0) NONE status(2) 9 count(1) 0 rule(7) 0 shift(3, 2, 1, 1) 2"
                + " status(2) 9 status(1) 8");
    }

    // Promise 18
    private static void shake() {
        says("1 .. 60", LEAST, "shake(0, 1) NONE shake(-1, 1) NONE shake(61, 1) NONE shake(FAR, 1) NONE"
                + " shake(DEEP, 1) NONE status(2) 5 count(1) 0 rule(6) 1 shake(1, 1) 1 rule(6) 0 count(1) 1"
                + " shake(60, 1) 0 count(1) 2 status(2) 5 rule(8) 0 count(2) 0");
        says("without any CORES", EMPTY, "shake(60, LONGEST) 0 shake(1, LOWEST) 0 count(1) 2 undo() 1 undo() 0"
                + " undo() NONE");
        says("out on each side of a row", "size 3 2;core 0 0 0 1;core 1 0 0 1", "shake(60, 7) 2 rule(6) 0 count(1) 1"
                + " undo() 0 rule(6) 2");
        says("without a WAY", "size 3 3;core 0 0 1 1;core 1 1 -1 2", "shake(60, 7) 0 rule(6) 2 face(0, 0, 0) 1"
                + " face(1, 1, 1) 2 count(1) 1");
    }

    private static void shaken(long seed, int n, int... faces) {
        SlipLattice x = Check.of(SPREAD);
        Check.due("shake(" + n + ", " + seed + ")", x.shake(n, seed), n);
        for (int i = 0; i < 3; i++) {
            Check.due("seed " + seed + ", " + n + " times: core " + i, x.face(faces[2 * i], faces[2 * i + 1], 2), i);
        }
    }

    // the draws of a seed, going round; worked out apart with numbers that have no end
    private static void draws() {
        // 167951807 is 2 of 3, 218396424 is 0 of 2
        shaken(0, 1, 2, 2, 4, 4, 6, 5);
        // 1299921937 is 1 of 3, 861605236 is 0 of 2
        shaken(0, 2, 2, 2, 3, 4, 6, 5);
        // 823830125 is 2 of 3, 1204436891 is 1 of 2
        shaken(0, 3, 2, 2, 3, 4, 6, 6);
        // 908834774, 1093944153: the second has the highest bit
        shaken(1, 1, 2, 2, 4, 4, 6, 7);
        // 1649717740, 1969491882: both have
        shaken(2, 1, 2, 2, 3, 4, 6, 6);
        // 243117059, 697555963
        shaken(3, 1, 2, 2, 4, 4, 6, 7);
        // 1724882992, 301167773
        shaken(5, 1, 2, 2, 5, 4, 6, 6);
        // 1574552488, 1490332343
        shaken(-1, 1, 2, 2, 5, 4, 6, 6);
        // 833669522, 614784614
        shaken(-2, 1, 2, 2, 4, 4, 6, 5);
        // 500810664, 416590519
        shaken(Long.MAX_VALUE, 1, 2, 3, 4, 4, 6, 6);
        // 1241693631, 1292138248
        shaken(Long.MIN_VALUE, 1, 2, 1, 4, 4, 6, 6);
    }

    private static void drawsWithoutWay() {
        // seed 2 draws 1 of 3, which has no WAY, and its 0 of 2; then 1484760456: 0 of 3, 782780504: 0 of 2
        says("one without a WAY takes its draws", "size 9 9;core 2 2 0 1;core 4 4 1 1;core 6 6 0 -1", "shake(1, 2) 0"
                + " face(4, 4, 2) 1 shake(2, 2) 1 face(2, 1, 2) 0 face(4, 4, 2) 1 face(6, 6, 2) 2");
    }

    // Promise 19
    private static void set() {
        says("S, T", EMPTY, "set(0, -20) 0 set(0, 20) -20 set(0, 21) HIDDEN set(0, -21) HIDDEN set(1, -20) 0"
                + " set(1, 20) -20 set(1, 21) HIDDEN set(1, -21) HIDDEN status(2) 4 rule(2) 20 rule(3) 20");
        says("hold", EMPTY, "set(2, 0) 10 set(2, -1) HIDDEN set(2, 99) 0 set(2, 100) HIDDEN status(2) 2 rule(4) 99");
        says("rule", EMPTY, "set(3, 2) 0 set(3, 3) HIDDEN set(3, 0) 2 set(3, -1) HIDDEN set(3, 1) 0 status(2) 2"
                + " rule(5) 1");
        says("no such what", EMPTY, "set(-1, 0) HIDDEN set(4, 0) HIDDEN set(FAR, 0) HIDDEN set(DEEP, 0) HIDDEN"
                + " set(0, FAR) HIDDEN set(1, DEEP) HIDDEN status(2) 6 count(1) 0 rule(2) 0 rule(3) 0 rule(4) 10"
                + " rule(5) 0");
        says("what it was, told again", EMPTY, "set(2, 10) 10 set(2, 10) 10 status(2) 0");
    }

    // Promise 20
    private static void wall() {
        says("wall", "size 5 5;core 1 0 1 0;core 2 3 0 1", "rule(12) 2 wall(0, 0) 2 wall(0, 1) 0 wall(0, 2) 0"
                + " wall(0, 3) 1 wall(0, 4) 1 wall(1, 0) 3 wall(1, 1) 0 wall(1, 2) 3 wall(1, 3) 1 wall(1, 4) 1"
                + " wall(2, 0) NONE wall(-1, 0) NONE wall(0, -1) NONE wall(0, 5) NONE wall(FAR, 0) NONE"
                + " wall(DEEP, 0) NONE wall(0, FAR) NONE wall(0, DEEP) NONE");
        says("none", EMPTY, "wall(0, 0) NONE wall(-1, 0) NONE rule(12) 0");
        says("two rows next to one another are two", "size 4 4;core 1 0 1 0;core 1 1 1 0", "rule(12) 2 wall(0, 0) 2"
                + " wall(1, 2) 1");
        // a corner's two LINKS are beside one FACE; the CORE has none of them
        says("a corner", "size 4 4;core 0 2 1 0", "shift(3, 0, 1, 1) 3 rule(12) 2 wall(0, 0) 2 wall(0, 1) 2"
                + " wall(0, 2) 0 wall(0, 3) 0 wall(0, 4) 0 wall(1, 0) 1 wall(1, 4) 1");
        // 1, 1 and 3, 3 of 5 by 5: no FACE has LINKS of both, but 1, 1 and 2, 2 are joined
        says("one FACE between", "size 5 5", "shift(1, 1, 1, 1) 4 shift(3, 3, 1, 1) 8 rule(12) 2 shift(2, 2, 5, 5) 12"
                + " rule(12) 1 wall(0, 0) 12 most(5) 12");
        says("a CORE beside two", "size 4 4;core 1 1 1 0", "rule(12) 1 wall(0, 0) 2 wall(0, 4) 1");
    }

    /** The last link of a row and the first one of the next row are far apart. */
    private static void wallsAtTheRim() {
        says("right and left", "size 9 9;core 0 1 1 0", "shift(8, 0, 1, 1) 3 rule(12) 2 wall(0, 0) 2 wall(0, 1) 7"
                + " wall(0, 2) 0 wall(0, 3) 0 wall(0, 4) 0 wall(1, 0) 1 wall(1, 1) 0 wall(1, 2) 1 wall(1, 3) 1"
                + " wall(1, 4) 1");
        says("above and below", "size 9 9", "shift(0, 0, 1, 1) 2 shift(0, 8, 1, 1) 4 shift(8, 0, 1, 1) 6"
                + " shift(8, 8, 1, 1) 8"
                + " rule(12) 4 wall(0, 0) 2 wall(1, 0) 2 wall(2, 0) 2 wall(3, 0) 2 wall(1, 1) 7 wall(1, 2) 0"
                + " wall(2, 1) 0"
                + " wall(2, 2) 7 wall(2, 3) 1 wall(3, 1) 8 wall(3, 2) 7 wall(3, 3) 1 wall(4, 0) NONE");
    }

    // Promise 21
    private static void rid() {
        says("1 .. 9", "size 9 9;core 4 3 1 0", "rid(0) NONE rid(-1) NONE rid(10) NONE rid(FAR) NONE rid(DEEP) NONE"
                + " rid(1) 4 rid(9) 4 rid(2) 4 status(2) 0");
        says("without CORES", EMPTY, "rid(1) 0 rid(9) 0 rid(10) NONE");
        says("the edge where it stands", LEAST, "rid(1) 1 rid(9) 1");
        says("the left, the right edge", "size 9 9;core 2 4 1 0", "rid(9) 3 move(2, 4, 0, 0) 0 rid(9) 4"
                + " move(3, 4, 0, 0) 0 rid(9) 4 move(4, 4, 0, 0) 0 rid(9) 3");
        says("below, above", "size 9 9;core 4 2 0 1", "rid(9) 3 move(4, 2, 0, 1) 0 rid(9) 4 move(4, 3, 0, 1) 0 rid(9) 4"
                + " move(4, 4, 0, 1) 0 rid(9) 3");
        // by a climb 1 times the price, along its WAY 4
        says("a climb that is as dear, dearer", "size 9 9;core 3 0 1 0", "rid(3) 3 rid(4) 4 rid(5) 4");
        says("two that meet", "size 9 9;core 3 3 1 0;core 4 4 -1 0", "rid(1) 2 rid(6) 7 rid(7) 8 rid(8) 8 rid(9) 8"
                + " meets(6, 0) 1 meets(7, 0) 0 meets(9, 0) 0");
    }

    // Promise 22
    private static void meets() {
        says("meets", "size 9 9;core 3 3 1 0;core 4 3 -1 0", "meets(0, 0) NONE meets(1, 0) 1 meets(1, 1) 0"
                + " meets(9, 0) 1 meets(10, 0) NONE meets(1, -1) NONE meets(1, 2) NONE meets(-1, 0) NONE"
                + " meets(FAR, 0) NONE meets(DEEP, 0) NONE meets(1, FAR) NONE meets(1, DEEP) NONE");
        says("without CORES", EMPTY, "meets(1, 0) NONE meets(1, -1) NONE");
        says("itself: it goes out", LEAST, "meets(1, 0) 0 meets(9, 0) 0 meets(1, 1) NONE");
        // out 2 and 2, meeting 4
        says("as dear: out ahead of another one", "size 8 2;core 1 0 1 0;core 5 0 -1 0", "rid(9) 4 meets(9, 0) 0"
                + " meets(9, 1) 1");
        says("one less: they meet", "size 8 2;core 1 0 1 0;core 4 0 -1 0", "rid(9) 3 meets(9, 0) 1 meets(9, 1) 0");
        // 0 with 1 or with 2 costs 1, the rest 4 each
        says("as dear: the lower one first", "size 9 9;core 4 3 1 1;core 3 4 -1 -1;core 4 4 -1 -1", "rid(1) 5"
                + " meets(1, 0) 2 meets(1, 1) 1 meets(1, 2) 0");
        says("as dear: the lower one first", "size 9 9;core 3 3 1 1;core 4 3 -1 -1;core 3 4 -1 -1", "rid(1) 5"
                + " meets(1, 0) 1 meets(1, 1) 0 meets(1, 2) 2");
        says("four in a row", "size 9 9;core 3 4 1 0;core 4 4 -1 0;core 5 4 1 0;core 6 4 -1 0",
                "rid(9) 2 meets(9, 0) 1 meets(9, 1) 0 meets(9, 2) 3 meets(9, 3) 2");
        says("alike ones do not meet", "size 9 9;core 3 3 1 0;core 4 3 1 0", "rid(1) 8 meets(1, 0) 0 meets(1, 1) 1");
        says("half opposites do not meet", "size 9 9;core 3 3 1 1;core 4 3 -1 1", "rid(1) 8 meets(1, 0) 0"
                + " meets(1, 1) 1");
    }

    // Promise 23
    private static void ahead() {
        says("0 .. 40", RESTLESS, "ahead(-1, 1) HIDDEN ahead(0, 1) 0 ahead(1, 1) 2 ahead(40, 1) 80 ahead(41, 1) HIDDEN"
                + " ahead(FAR, 1) HIDDEN ahead(DEEP, 1) HIDDEN status(2) 0 rule(8) 0 count(1) 0 count(2) 0");
        says("whats", RUNNER, "ahead(7, 0) 1 ahead(8, 0) 0 ahead(7, 1) 7 ahead(8, 1) 8 ahead(9, 1) 8 ahead(7, 3) 0"
                + " ahead(8, 3) 1 ahead(40, 3) 1 ahead(7, 4) 50 ahead(8, 4) 0 ahead(0, 5) 1 ahead(7, 5) 8 ahead(8, 5) 9"
                + " ahead(8, 2) 0 ahead(0, -1) HIDDEN ahead(0, 6) HIDDEN ahead(0, FAR) HIDDEN ahead(0, DEEP) HIDDEN"
                + " face(0, 0, 0) 1");
        says("CANCELLED", PAIR, "ahead(0, 2) 0 ahead(1, 2) 1 ahead(40, 2) 1 ahead(1, 1) 2 ahead(0, 4) 75 ahead(1, 4) 0"
                + " rule(6) 2");
        SlipLattice x = Check.of(LONG);
        int glided = x.ahead(40, 1);
        int out = x.ahead(40, 3);
        int energy = x.ahead(40, 4);
        Check.due("as 40 rounds then do", x.go(40), glided);
        int went = 0;
        for (int i = 0; i < 40; i++) {
            went += x.log(i, 2);
        }
        Check.due("and so many go out", went, out);
        Check.due("the energy, too", x.rule(11), energy);
    }

    // Promise 24
    private static void rests() {
        says("none GLIDES", EMPTY, "rests() 0");
        says("seven, eight", RUNNER, "rests() 8 go(1) 1 rests() 7 go(7) 7 rests() 0 go(1) 0 rests() 0");
        says("never", RESTLESS, "rests() NONE go(40) 80 rests() NONE rule(8) 40 set(2, 49) 10 rests() NONE"
                + " set(2, 50) 49 rests() 0");
        SlipLattice x = Check.of(LONG);
        Check.due("83 are not so few", x.rests(), -1);
        x.go(40);
        x.go(2);
        Check.due("41 are not so few", x.rests(), -1);
        x.go(1);
        Check.due("40 are", x.rests(), 40);
        x.go(1);
        Check.due("39", x.rests(), 39);
        x.go(38);
        Script.goOn("1, 0", x, "rests() 1 rule(8) 82");
        Check.due("in the 83rd one some glide", x.go(1) > 0, true);
        Script.goOn("0", x, "rests() 0 go(1) 0 rests() 0");
    }

    // Promise 25
    private static void layer() {
        says("layer", EMPTY, "layer(-1, 0) HIDDEN layer(0, 0) 3 layer(2, 0) 3 layer(3, 0) HIDDEN layer(FAR, 0) HIDDEN"
                + " layer(DEEP, 0) HIDDEN layer(0, -1) HIDDEN layer(0, 4) HIDDEN layer(0, FAR) HIDDEN"
                + " layer(0, DEEP) HIDDEN layer(0, 1) 0 layer(0, 2) 0 layer(0, 3) 0 layer(2, 3) 0");
        says("the least, the greatest one", LEAST, "layer(0, 0) 1 layer(1, 0) 1 layer(2, 0) HIDDEN layer(0, 3) 1"
                + " layer(1, 3) 0");
        says("all of it", "size 9 9;core 7 7 1 0", "layer(8, 0) 8 layer(9, 0) HIDDEN layer(7, 3) 8 layer(8, 3) 0"
                + " layer(6, 3) 0 shift(8, 8, 2, 3) 10 layer(8, 0) 10 layer(8, 1) 3 layer(8, 2) 1 layer(7, 3) 9"
                + " shift(4, 8, 5, 5) 12 layer(8, 0) 10 layer(8, 1) 3 layer(8, 2) 3 shift(0, 8, -4, 1) 13"
                + " layer(8, 0) 14 layer(8, 1) 2 layer(8, 2) 4");
    }

    // Promise 26
    private static void line() {
        says("line", "size 9 9;core 0 4 1 0;core 7 4 1 0;core 4 0 0 1;core 4 7 0 1", "line(1, 0) 2 line(1, 1) 7"
                + " line(1, 2) NONE line(1, 3) NONE line(2, 0) NONE line(2, 1) NONE line(2, 2) 1 line(2, 3) 7"
                + " line(0, 0) 3 line(0, 1) 7 line(0, 2) NONE line(0, 3) NONE line(3, 0) NONE line(3, 1) NONE"
                + " line(3, 2) 0 line(3, 3) 7 line(4, 0) HIDDEN line(-1, 0) HIDDEN line(0, -1) HIDDEN line(0, 4) HIDDEN"
                + " line(FAR, 0) HIDDEN line(DEEP, 0) HIDDEN line(0, FAR) HIDDEN line(0, DEEP) HIDDEN");
        says("next to one another", "size 9 9;core 3 3 1 0;core 4 3 1 1;core 5 3 -1 0", "line(0, 0) 1 line(0, 1) 1"
                + " line(2, 2) 1 line(2, 3) 1 line(1, 0) HIDDEN line(1, 1) HIDDEN line(1, 2) HIDDEN line(1, 3) HIDDEN");
        says("not in its row", "size 9 9;core 3 3 1 0;core 4 4 1 0;core 3 5 1 0", "line(0, 0) NONE line(0, 1) NONE"
                + " line(0, 2) NONE line(0, 3) NONE line(1, 0) NONE line(1, 2) NONE");
        says("not in its column", "size 9 9;core 3 3 0 1;core 4 4 0 1;core 5 3 0 1", "line(0, 0) NONE line(0, 2) NONE"
                + " line(2, 0) NONE line(2, 2) NONE");
        says("the nearer one of two", "size 9 9;core 1 1 1 0;core 3 1 1 0;core 6 1 1 0", "line(0, 0) 1 line(0, 1) 2"
                + " line(2, 2) 1 line(2, 3) 3 line(1, 0) 2 line(1, 1) 3 line(1, 2) 0 line(1, 3) 2");
        says("without CORES", EMPTY, "line(0, 0) HIDDEN");
        says("one that went", LEAST, "line(0, 0) NONE move(0, 0, 0, 1) 3 line(0, 0) HIDDEN");
    }

    // Promise 27
    private static void stills() {
        says("0", EMPTY, "stills() 0");
        says("0 .. 20", "size 3 3;core 0 0 1 0;stress 20 0;hold 99", "stills() 20 set(2, 20) 99 go(1) 0 set(2, 19) 20"
                + " go(1) 1");
        says("of a force below 0", "size 3 3;core 0 0 -1 0;stress 20 0", "stills() 20 set(0, 1) 20 stills() 1"
                + " set(0, 0) 1 stills() 0");
        says("99, 100", "size 3 3;core 0 0 1 0;core 1 0 -1 0;rule 1", "stills() NONE set(0, -1) 0 stills() 99"
                + " set(2, 99) 10 go(1) 0 set(0, -2) -1 stills() 98 set(0, 1) -2 stills() NONE");
        says("by the hold of now it is not changed", RESTLESS, "stills() 50 set(2, 0) 10 stills() 50 rests() NONE"
                + " set(2, 50) 0 rests() 0 stills() 50");
    }

    // the latest 20 ACTS
    private static void undoOfTwenty() {
        says("none", EMPTY, "undo() NONE count(1) 0");
        SlipLattice x = says("20", EMPTY, forEach(1, 20, "shift(0, 0, 1, 0) 2 count(1) #"));
        undoAll(x, 20);
        Script.goOn("all 20", x, "link(0, 0, false, 0) 1 rule(7) 0 count(1) 0");
        x = says("21", EMPTY, forEach(1, 20, "shift(0, 0, 1, 0) 2") + "shift(0, 0, 1, 0) 2 count(1) 20");
        undoAll(x, 20);
        Script.goOn("the first one stays", x, "link(0, 0, false, 0) 0 rule(7) 2");
        x = says("each ROUND is one", RUNNER, "go(40) 8 count(1) 20 undo() 19 rule(8) 39");
        undoAll(x, 19);
        Script.goOn("20 rounds stay", x, "rule(8) 20 count(2) 20");
        says("19 and some again", RUNNER, "go(19) 8 count(1) 19 undo() 18 undo() 17 go(5) 0 count(1) 20 rule(8) 22"
                + " undo() 19");
    }

    /** So many acts can be undone, and no more. */
    private static void undoAll(SlipLattice x, int acts) {
        for (int i = acts - 1; i >= 0; i--) {
            Check.due("undo", x.undo(), i);
        }
        Check.due("one undo more", x.undo(), -1);
    }

    private static void undoOfEach() {
        says("a move", LEAST, "move(0, 0, 0, 0) 3 rule(6) 0 undo() 0 rule(6) 1 rule(7) 1 face(0, 0, 0) 1");
        says("shaking, all at once", "size 9 9;core 4 4 1 0", "shake(3, 3) 3 count(1) 1 undo() 0 face(4, 4, 0) 1"
                + " rule(7) 5");
        says("a ROUND", RUNNER, "go(3) 3 undo() 2 face(2, 0, 0) 1 rule(8) 2 count(2) 2 log(0, 3) 1");
        says("refused ones are none", LEAST, "move(0, 0, 9, 9) NONE go(0) NONE shift(9, 9, 1, 1) NONE shake(0, 0) NONE"
                + " set(9, 9) HIDDEN count(1) 0 undo() NONE");
        says("set, image, path, ahead are none", LEAST, "set(0, 1) 0 image() 0 path(0, 0) 1 ahead(9, 0) 1 rests() 0"
                + " rid(1) 1 count(1) 0 undo() NONE");
    }

    private static void linksOfEachSite() {
        SlipLattice x = Check.of("size 9 9");
        for (int i = 0; i < 81; i++) {
            x.shift(i % 9, i / 9, 3, -2);
            x.undo();
            Check.due("links behind an undone shift of " + i % 9 + ", " + i / 9, x.rule(7), 0);
        }
        Check.due("image", x.image(), 0);
        for (int i = 0; i < 81; i++) {
            x.shift(i % 9, i / 9, 1 + i % 8, -1 - i % 9);
        }
        Script.goOn("all links slipped, and back", x, "rule(7) 144 back() 0 rule(7) 0");
    }

    // Promise 29
    private static void image() {
        says("an IMAGE", RUNNER, "image() 0 go(2) 2 image() 2 go(1) 1 back() 2 face(2, 0, 0) 1");
        SlipLattice x = says("it is no ACT, and takes none", RUNNER, "go(2) 2 image() 2 count(1) 2 undo() 1 rule(8) 1"
                + " back() 2 count(1) 0 undo() NONE rule(8) 2");
        Script.goOn("none of another CRYSTAL", x, "tape \"size 9 9;core 1 1 1 0\" text() 1 back() NONE image() 0"
                + " back() 0");
        Script.goOn("a FAULT leaves it", x, "tape \"x\" text() NONE back() 0");
    }

    // Promise 30
    private static void back() {
        says("no IMAGE", RUNNER, "go(1) 1 back() NONE rule(8) 1 count(1) 1");
        says("LINKS, LOG, ROUNDS gone", RUNNER, "shift(8, 8, 1, 1) 3 go(3) 3 image() 3 shift(8, 8, 1, 1) 6 go(40) 5"
                + " back() 3 rule(8) 3 count(2) 3 log(2, 0) 1 log(3, 0) NONE link(7, 8, false, 0) 2 face(3, 0, 0) 1"
                + " rule(6) 1 count(1) 0 undo() NONE go(1) 1 count(1) 1 back() 3 back() 3 face(3, 0, 0) 1");
        says("the LOG of 40", RUNNER, "go(40) 8 image() 40 go(8) 0 log(39, 0) 0 back() 40 log(39, 0) 1 log(32, 2) 1"
                + " count(2) 40 go(1) 0 log(39, 0) 1 log(33, 2) 1");
        says("what set() told stays", RUNNER, "image() 0 set(0, 7) 20 set(2, 3) 10 back() 0 rule(2) 7 rule(4) 3");
    }

    // Promise 31
    private static void status() {
        says("status", LEAST, "status(-1) NONE status(0) 0 status(3) 0 status(4) NONE status(FAR) NONE"
                + " status(DEEP) NONE");
        says("each of its own", LEAST, "move(1, 1, 0, 0) NONE shift(2, 0, 1, 1) NONE status(1) 2 move(0, 0, 3, 0) NONE"
                + " go(0) NONE shift(0, 0, 0, 0) NONE shake(0, 0) NONE set(4, 0) HIDDEN status(2) 5 status(0) 0"
                + " status(3) 0");
        says("others are not told", LEAST, "rule(99) HIDDEN core(9, 9) throws face(9, 9, 9) HIDDEN"
                + " link(9, 9, true, 9) HIDDEN box(9, 9, 9, 9, 9) HIDDEN halved(99, 99) NONE path(9, 9) NONE"
                + " gone(9) HIDDEN log(9, 9) NONE wall(9, 9) NONE rid(99) NONE meets(99, 99) NONE ahead(99, 99) HIDDEN"
                + " layer(99, 99) HIDDEN line(99, 99) HIDDEN undo() NONE back() NONE most(99) NONE count(99) NONE"
                + " end(99) false text() NONE status(0) 0 status(1) 0 status(2) 0 status(3) 0");
    }

    // Promise 32
    private static void most() {
        says("without any", EMPTY, "most(0) 0 most(1) NONE most(2) NONE most(3) NONE most(4) 0 most(5) 0 most(6) 0"
                + " most(7) 0 most(-1) NONE most(8) NONE most(FAR) NONE most(DEEP) NONE");
        says("of one", "size 9 9;core 7 3 -2 1", "most(0) 1 most(1) 7 most(2) 0 most(3) NONE most(4) 0 most(5) 8"
                + " most(6) 2 most(7) 0");
        says("the same VECTOR, the same column",
                "size 9 9;core 7 3 1 0;core 7 4 1 0;core 2 0 1 0;core 2 1 1 0;core 2 2 -1 0;core 7 5 1 1", "most(0) 2"
                + " most(1) 2 move(2, 0, 0, 2) 0 most(0) 2 most(1) 7");
        says("of several columns the lowest", "size 9 9;core 7 0 1 0;core 0 7 1 0", "most(0) 1 most(1) 0");
        says("the greatest FORCE, without sign", "size 9 9;core 0 0 1 0;core 7 7 -2 0;stress 10 0", "most(2) 1");
        says("of several FORCES the lowest", "size 9 9;core 0 0 1 0;core 3 0 -1 0;core 7 7 0 1", "most(2) 0");
        says("no FORCE at all", "size 9 9;core 0 0 1 1;core 5 5 0 1", "most(2) 0");
        says("of two", "size 9 9;core 0 0 1 0;core 7 7 0 1", "most(3) 1 most(4) 98");
        // 0 at 0, 0; 1 at 3, 0; 2 at 7, 5; 3 at 7, 7
        says("the nearest two", "size 9 9;core 0 0 1 1;core 3 0 1 1;core 7 5 1 1;core 7 7 1 1", "most(3) 35 most(4) 4");
        says("of several the lowest", "size 9 9;core 0 0 1 1;core 2 0 1 1;core 4 0 1 1;core 2 2 1 1", "most(3) 1"
                + " most(4) 4 move(0, 0, 0, 1) 1 most(3) 1 most(4) 4");
        says("late ones of twelve", TEN, "move(2, 4, 1, 0) 0 move(0, 4, 0, 1) 1 move(3, 4, 0, 1) 1"
                + " move(0, 5, 1, 1) 1"
                + " rule(6) 12 most(3) 155 most(4) 1 move(2, 4, 0, 1) 0 most(3) 139 most(4) 1");
        says("by squares: 3 and 4 are as far as 5", "size 9 9;core 0 0 1 1;core 3 4 1 1;core 0 5 1 1", "most(3) 18"
                + " most(4) 10");
        says("the greatest number, without sign", "size 9 9;core 0 0 1 0;core 3 3 1 -2", "most(6) 2 move(3, 3, 2, 0) 1"
                + " most(6) 2 move(4, 3, 0, 0) 1 most(6) 2");
        says("added ones", "size 9 9;core 0 0 2 0;core 1 0 2 0", "most(6) 2 move(0, 0, 0, 0) 0 most(6) 4");
        says("opposites", "size 9 9;core 0 0 1 0;core 3 3 -1 0;core 5 5 1 0;core 6 6 0 1;core 7 7 1 1", "most(7) 3"
                + " move(3, 3, 0, 0) 0 most(7) 3");
        says("the longest WALL", "size 9 9;core 1 0 1 0;core 5 3 1 0", "most(5) 6 shift(8, 8, 1, 1) 10 most(5) 6");
    }

    private static void energyIsCut() {
        // 100 by 8
        says("above 0", "size 4 4;core 0 0 1 0;core 2 2 1 0", "rule(11) 112 ahead(0, 4) 112");
        says("below 0", "size 4 4;core 0 0 1 0;core 2 2 -1 0", "rule(11) 88");
        says("each two, each cut", "size 4 4;core 0 0 1 0;core 2 2 -1 0;core 2 0 0 1;core 0 2 0 -1", "rule(11) 176");
        says("the greatest one alone", "size 4 4;core 0 0 2 -2", "rule(11) 400");
        says("both products", "size 4 4;core 0 0 2 -1;core 1 0 1 2", "rule(11) 500");
    }

    // Promise 33
    private static void count() {
        says("count", LEAST, "count(-1) NONE count(0) 0 count(1) 0 count(2) 0 count(3) NONE count(FAR) NONE"
                + " count(DEEP) NONE tape \"abc\" count(0) 3 shift(0, 0, 1, 1) 2 count(1) 1 go(2) 0 count(1) 3"
                + " count(2) 2 undo() 2 count(1) 2 count(2) 1");
    }

    /** W and H are bounds of their own: what stands above W, or beyond H. */
    private static void tallOnes() {
        String tall = "size 2 9;core 0 7 0 1;stress 0 20";
        says("rounds ahead", tall, "ahead(0, 0) 1 ahead(0, 4) 50 ahead(0, 5) 1 ahead(1, 3) 1 ahead(1, 0) 0"
                + " ahead(1, 5) 2"
                + " rests() 1 go(1) 1 log(0, 2) 1");
        says("SLIPPED LINKS", tall, "rule(7) 1 shift(1, 8, 1, 1) 3 rule(7) 3 rule(12) 1 wall(0, 0) 3 most(5) 3"
                + " shift(0, 0, 1, 1) 5 rule(12) 2 wall(1, 2) 7 layer(8, 2) 1 layer(7, 3) 2");
        says("its edges", tall, "rid(9) 1 rid(1) 1 move(0, 7, 0, 3) 0 move(0, 6, 0, 3) 0 move(0, 5, 0, 3) 0 rid(1) 1"
                + " rid(9) 4");
        says("halved", "size 3 9;core 1 7 1 0", "halved(NONE, 0) 5 halved(1, 1) 4 halved(2, 1) 6 halved(3, 0) 1"
                + " halved(3, 1) 6"
                + " halved(4, 0) 1 halved(4, 1) 7 halved(4, 2) 2 halved(4, 3) 8");
        says("halved, with two", "size 3 9;core 1 7 0 1;core 0 6 1 0", "halved(2, 1) 6 halved(3, 0) 0 halved(3, 2) 1"
                + " halved(4, 0) 0 halved(4, 1) 6");
        String rows = "halved(NONE, 0) 5 halved(2, 1) 6 halved(3, 0) 1 halved(3, 2) 2 halved(4, 0) 1 halved(4, 1) 7";
        says("a pair that was left below", "size 3 9;core 0 0 0 1;core 1 0 0 -1;core 1 7 0 1", rows);
        says("a pair that was left below", "size 3 9;core 0 0 1 0;core 1 0 -1 0;core 1 7 1 0", rows);
    }

    private static void wideOnes() {
        String wide = "size 9 2;core 7 0 1 0;stress 20 0";
        says("rounds ahead", wide, "ahead(0, 0) 1 ahead(0, 5) 8 ahead(1, 3) 1 ahead(1, 5) 9 rests() 1");
        says("its edges", "size 9 4;core 4 2 0 1", "rid(9) 1 rid(1) 1 move(4, 2, 0, 3) 0 rid(9) 2");
        says("halved", "size 9 3;core 7 1 0 1", "halved(NONE, 0) 5 halved(1, 0) 4 halved(2, 0) 6 halved(3, 0) 7"
                + " halved(3, 1) 0"
                + " halved(4, 0) 7 halved(4, 1) 1 halved(4, 2) 8 halved(4, 3) 2");
        says("halved, with two", "size 9 3;core 5 1 0 1;core 4 0 1 0", "halved(1, 0) 4 halved(2, 0) 4 halved(2, 2) 6"
                + " halved(3, 2) 5 halved(4, 0) 4 halved(4, 1) 0");
    }

    /** Each letter from each of some sites tells its own link's step. */
    private static void pathsOverShifted() {
        SlipLattice x = says("shifted", "size 4 3", "shift(1, 0, 1, 2) 3 shift(2, 1, 3, -4) 7 shift(0, 2, -5, 6) 9");
        Script.goOn("to the right", x, "tape \"r\" path(2, 0) 0 gone(0) 1 gone(1) 0 tape \"r\" path(0, 0) 0 gone(0) 2"
                + " gone(1) 2"
                + " tape \"r\" path(1, 0) 0 gone(0) 0 gone(1) -2 tape \"r\" path(1, 1) 0 gone(0) 4 gone(1) -4"
                + " tape \"r\" path(2, 1) 0 gone(0) -2 gone(1) 4 tape \"r\" path(0, 2) 0 gone(0) 6 gone(1) -6");
        Script.goOn("to the left", x, "tape \"l\" path(3, 0) 0 gone(0) -1 gone(1) 0 tape \"l\" path(3, 1) 0 gone(0) 2"
                + " gone(1) -4"
                + " tape \"l\" path(2, 1) 0 gone(0) -4 gone(1) 4 tape \"l\" path(1, 2) 0 gone(0) -6 gone(1) 6");
        Script.goOn("up", x, "tape \"u\" path(2, 0) 0 gone(0) 3 gone(1) -3 tape \"u\" path(1, 0) 0 gone(0) -1"
                + " gone(1) -1"
                + " tape \"u\" path(2, 1) 0 gone(0) -3 gone(1) 5 tape \"u\" path(0, 1) 0 gone(0) -5 gone(1) 7");
        Script.goOn("down", x, "tape \"d\" path(2, 1) 0 gone(0) -3 gone(1) 3 tape \"d\" path(1, 1) 0 gone(0) 1"
                + " gone(1) 1"
                + " tape \"d\" path(2, 2) 0 gone(0) 3 gone(1) -5 tape \"d\" path(0, 2) 0 gone(0) 5 gone(1) -7");
    }

    /** An object is used for at most 512 calls: the dearest ones, and the last one is answered as the first one. */
    private static void lastCall() {
        SlipLattice x = Check.of(TEN.replace("2 0 1 1", "2 0 -1 -1").replace("6 0 1 1", "6 0 -1 -1").replace("2 2 1 1",
                "2 2 -1 -1")
                .replace("6 2 1 1", "6 2 -1 -1").replace("2 4 1 1", "2 4 -1 -1"));
        int first = x.rid(9);
        for (int i = 0; i < 480; i++) {
            Check.due("the same again", x.rid(9), first);
        }
        x = Check.of(RESTLESS);
        for (int i = 1; i <= 500; i++) {
            Check.due("40 rounds", x.go(40), 80);
        }
        Script.goOn("behind them", x, "rule(8) 20000 count(2) 40 count(1) 20 undo() 19 rule(8) 19999 log(39, 0) 2");
    }
}
