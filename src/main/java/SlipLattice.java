import java.util.NoSuchElementException;

/** An examiner of slipped crystals; the document's numbered promises say what each public method answers. */
public final class SlipLattice {
    public static final int NONE = -1;
    public static final int HIDDEN = -1000000;

    private static final int MOST_CORES = 12;
    private static final int MOST_ROUNDS = 40;
    private static final int MOST_SHAKES = 60;
    private static final int MOST_LETTERS = 120;
    private static final int MOST_SHIFT = 9;
    private static final int MOST_PRICE = 9;
    private static final int MOST_HOLD = 99;

    private static final int NO_CRYSTAL = 0;
    private static final int NOTHING_THERE = 1;
    private static final int OUT_OF_BOUNDS = 2;
    private static final int TOO_MANY = 3;

    private static final int GLIDED = 0;
    private static final int CLIMBED = 1;
    private static final int CANCELLED = 2;
    private static final int WENT_OUT = 3;

    // The four numbers that set() can change, in its order: S, T, hold, rule.
    private static final int HOLD = 2;
    private static final int LAW = 3;
    private static final int[] LEAST_SETTING = {-20, -20, 0, 0};
    private static final int[] MOST_SETTING = {20, 20, 99, 2};
    private static final int[] USUAL_SETTING = {0, 0, 10, 0};

    // Where a direction leads: right, up, left, down.
    private static final int[] ACROSS = {1, 0, -1, 0};
    private static final int[] UPWARDS = {0, 1, 0, -1};

    private final Tape tape = new Tape();
    private final Reader reader = new Reader(tape);
    private final Crystal now = new Crystal();
    private final Crystal trial = new Crystal();
    private final int[] settings = new int[4];
    private final Log rounds = new Log();
    private final Past past = new Past();
    private final Snapshot kept = new Snapshot();
    private boolean hasImage;
    private final int[] walk = new int[5];
    private boolean walked;
    private final int[] refused = new int[4];
    private final Halving halving = new Halving();
    private final Walls walls = new Walls();
    private final Riddance riddance = new Riddance();

    public SlipLattice() {
    }

    public int feed(int a, int b, int c, int d, int e) {
        int more = Tape.bytesOf(a) + Tape.bytesOf(b) + Tape.bytesOf(c) + Tape.bytesOf(d) + Tape.bytesOf(e);
        if (tape.length + more > Tape.ROOM) {
            return NONE;
        }
        tape.put(a);
        tape.put(b);
        tape.put(c);
        tape.put(d);
        tape.put(e);
        return tape.length;
    }

    public boolean end(int n) {
        if (n < 0 || n > tape.length) {
            return false;
        }
        tape.length = n;
        return true;
    }

    public int fault() {
        return reader.read();
    }

    public int text() {
        if (reader.read() != NONE) {
            return NONE;
        }
        tape.length = 0;
        now.build(reader);
        System.arraycopy(reader.settings, 0, settings, 0, settings.length);
        rounds.total = 0;
        past.forget();
        hasImage = false;
        walked = false;
        return now.cores.size;
    }

    public int rule(int what) {
        if (isEmpty()) {
            return HIDDEN;
        }
        switch (what) {
            case 0:
                return now.sheet.width;
            case 1:
                return now.sheet.height;
            case 2:
            case 3:
            case 4:
            case 5:
                return settings[what - 2];
            case 6:
                return now.cores.size;
            case 7:
                return now.sheet.slippedLinks();
            case 8:
                return rounds.total;
            case 9:
            case 10:
                return now.sheet.sumRoundAll(what - 9);
            case 11:
                return now.cores.energy();
            case 12:
                walls.find(now.sheet);
                return walls.size();
            case 13:
                return now.cores.withoutWay();
            default:
                return HIDDEN;
        }
    }

    public int core(int i, int what) throws NoSuchElementException {
        if (i < 0 || i >= now.cores.size || what < 0 || what > 5) {
            throw new NoSuchElementException();
        }
        switch (what) {
            case 0:
            case 1:
                return now.cores.placeOf(i, what);
            case 2:
            case 3:
                return now.cores.numberOf(i, what - 2);
            case 4:
                return now.cores.wayOf(i);
            default:
                return now.cores.forceOn(i, settings);
        }
    }

    public int face(int x, int y, int what) {
        if (!now.sheet.hasFace(x, y) || what < 0 || what > 2) {
            return HIDDEN;
        }
        return what == 2 ? now.cores.indexAt(x, y) : now.sheet.vectorOf(x, y, what);
    }

    public int link(int x, int y, boolean up, int what) {
        int rise = up ? 1 : 0;
        if (!now.sheet.hasLink(x, y, rise) || what < 0 || what > 1) {
            return HIDDEN;
        }
        return now.sheet.stepOf(x, y, rise, what);
    }

    public int box(int x0, int y0, int x1, int y1, int what) {
        Sheet sheet = now.sheet;
        if (!sheet.hasSite(x0, y0) || !sheet.hasSite(x1, y1) || x0 >= x1 || y0 >= y1 || what < 0 || what > 3) {
            return HIDDEN;
        }
        if (what == 2) {
            return now.cores.inBox(x0, y0, x1, y1);
        }
        if (what == 3) {
            return 2 * (x1 - x0 + y1 - y0);
        }
        return sheet.sumRound(x0, y0, x1, y1, what);
    }

    public int halved(int k, int what) {
        if (isEmpty()) {
            return NONE;
        }
        int boxes = halving.boxesOf(now.sheet);
        if (k == NONE) {
            return boxes;
        }
        if (k < 0 || k >= boxes || what < 0 || what > 3) {
            return NONE;
        }
        halving.reach(now.sheet, k);
        return halving.sideOf(what);
    }

    public int path(int x, int y) {
        if (!now.sheet.hasSite(x, y)) {
            return NONE;
        }
        int atX = x;
        int atY = y;
        int first = 0;
        int second = 0;
        for (int i = 0; i < tape.length; i++) {
            int direction = i < MOST_LETTERS ? directionOf(tape.byteAt(i)) : NONE;
            if (direction < 0 || direction > 3
                    || !now.sheet.hasSite(atX + ACROSS[direction], atY + UPWARDS[direction])) {
                return -2 - i;
            }
            first += now.sheet.strideFrom(atX, atY, direction, 0);
            second += now.sheet.strideFrom(atX, atY, direction, 1);
            atX += ACROSS[direction];
            atY += UPWARDS[direction];
        }
        walk[0] = first;
        walk[1] = second;
        walk[2] = tape.length;
        walk[3] = atX;
        walk[4] = atY;
        walked = true;
        tape.length = 0;
        return atX == x && atY == y ? 1 : 0;
    }

    public int gone(int what) {
        return walked && what >= 0 && what < walk.length ? walk[what] : HIDDEN;
    }

    public int move(int x, int y, int part, int direction) {
        if (isEmpty()) {
            return refuse(NO_CRYSTAL);
        }
        if (now.cores.indexAt(x, y) == NONE) {
            return refuse(NOTHING_THERE);
        }
        if (part < 0 || part > 2 || direction < 0 || direction > 3) {
            return refuse(OUT_OF_BOUNDS);
        }
        int dx = part == 2 ? 0 : now.sheet.vectorOf(x, y, 0);
        int dy = part == 1 ? 0 : now.sheet.vectorOf(x, y, 1);
        if (dx == 0 && dy == 0) {
            return refuse(OUT_OF_BOUNDS);
        }
        if (now.cores.size >= MOST_CORES && wouldSplit(x, y, dx, dy, direction)) {
            return refuse(TOO_MANY);
        }
        past.remember(now.sheet, rounds);
        int outcome = now.sheet.carry(x, y, dx, dy, direction);
        now.cores.find(now.sheet);
        if (outcome != GLIDED) {
            return outcome;
        }
        return wayOfVector(dx, dy) == direction % 2 ? GLIDED : CLIMBED;
    }

    public int go(int n) {
        if (isEmpty()) {
            return refuse(NO_CRYSTAL);
        }
        if (n < 1 || n > MOST_ROUNDS) {
            return refuse(OUT_OF_BOUNDS);
        }
        int glided = 0;
        for (int i = 0; i < n; i++) {
            past.remember(now.sheet, rounds);
            now.clearTally();
            now.playRound(settings);
            rounds.add(now.tally, now.cores.size);
            glided += now.tally[0];
        }
        return glided;
    }

    public int log(int i, int what) {
        if (i < 0 || i >= rounds.size() || what < 0 || what > 3) {
            return NONE;
        }
        return rounds.entry(i, what);
    }

    public int shift(int x, int y, int dx, int dy) {
        if (isEmpty()) {
            return refuse(NO_CRYSTAL);
        }
        if (!now.sheet.hasSite(x, y)) {
            return refuse(NOTHING_THERE);
        }
        if (!isShift(dx) || !isShift(dy) || (dx == 0 && dy == 0)) {
            return refuse(OUT_OF_BOUNDS);
        }
        past.remember(now.sheet, rounds);
        now.sheet.shiftSite(x, y, dx, dy);
        return now.sheet.slippedLinks();
    }

    public int shake(int n, long seed) {
        if (isEmpty()) {
            return refuse(NO_CRYSTAL);
        }
        if (n < 1 || n > MOST_SHAKES) {
            return refuse(OUT_OF_BOUNDS);
        }
        past.remember(now.sheet, rounds);
        int glided = 0;
        long state = seed;
        for (int i = 0; i < n && now.cores.size > 0; i++) {
            state = nextState(state);
            int which = drawOf(state, now.cores.size);
            state = nextState(state);
            boolean along = drawOf(state, 2) == 1;
            if (now.cores.wayOf(which) != NONE) {
                now.glide(which, along);
                now.cores.find(now.sheet);
                glided++;
            }
        }
        return glided;
    }

    public int set(int what, int v) {
        if (isEmpty()) {
            refuse(NO_CRYSTAL);
            return HIDDEN;
        }
        if (what < 0 || what >= settings.length || v < LEAST_SETTING[what] || v > MOST_SETTING[what]) {
            refuse(OUT_OF_BOUNDS);
            return HIDDEN;
        }
        int before = settings[what];
        settings[what] = v;
        return before;
    }

    public int wall(int k, int what) {
        if (isEmpty() || what < 0 || what > 4) {
            return NONE;
        }
        walls.find(now.sheet);
        int first = walls.firstLinkOf(k);
        if (first == NONE) {
            return NONE;
        }
        switch (what) {
            case 0:
                return walls.linksOf(first);
            case 1:
                return first / 2 % Sheet.SIDE;
            case 2:
                return first / 2 / Sheet.SIDE;
            case 3:
                return first % 2;
            default:
                return walls.coresBeside(first, now.cores);
        }
    }

    public int rid(int price) {
        if (isEmpty() || price < 1 || price > MOST_PRICE) {
            return NONE;
        }
        riddance.plan(now, price);
        return riddance.cost;
    }

    public int meets(int price, int core) {
        if (isEmpty() || price < 1 || price > MOST_PRICE || core < 0 || core >= now.cores.size) {
            return NONE;
        }
        riddance.plan(now, price);
        return riddance.partnerOf(core);
    }

    public int ahead(int n, int what) {
        if (isEmpty() || n < 0 || n > MOST_ROUNDS || what < 0 || what > 5) {
            return HIDDEN;
        }
        trial.copy(now);
        trial.clearTally();
        for (int i = 0; i < n; i++) {
            trial.playRound(settings);
        }
        switch (what) {
            case 0:
                return trial.cores.size;
            case 4:
                return trial.cores.energy();
            case 5:
                return trial.sheet.slippedLinks();
            default:
                return trial.tally[what - 1];
        }
    }

    public int rests() {
        if (isEmpty()) {
            return NONE;
        }
        trial.copy(now);
        for (int i = 0; i <= MOST_ROUNDS; i++) {
            if (trial.cores.greatestForce(settings) <= settings[HOLD]) {
                return i;
            }
            trial.playRound(settings);
        }
        return NONE;
    }

    public int layer(int y, int what) {
        if (!now.sheet.hasSite(0, y) || what < 0 || what > 3) {
            return HIDDEN;
        }
        return what < 2 ? now.sheet.sumAlong(y, what) : now.sheet.slippedFrom(y, what - 2);
    }

    public int line(int core, int what) {
        int way = now.cores.wayOf(core);
        if (way == NONE || what < 0 || what > 3) {
            return HIDDEN;
        }
        int next = now.cores.nextAlong(core, way, what < 2 ? 1 : -1);
        if (next == NONE || what % 2 == 0) {
            return next;
        }
        return Math.abs(now.cores.placeOf(next, way) - now.cores.placeOf(core, way));
    }

    public int stills() {
        if (isEmpty()) {
            return NONE;
        }
        int greatest = now.cores.greatestForce(settings);
        return greatest > MOST_HOLD ? NONE : greatest;
    }

    public int undo() {
        return past.restore(now.sheet, rounds) ? afterReturn(past.size) : NONE;
    }

    public int image() {
        if (isEmpty()) {
            return NONE;
        }
        kept.take(now.sheet, rounds);
        hasImage = true;
        return rounds.total;
    }

    public int back() {
        if (!hasImage) {
            return NONE;
        }
        kept.give(now.sheet, rounds);
        past.forget();
        return afterReturn(rounds.total);
    }

    public int status(int what) {
        return what >= 0 && what < refused.length ? refused[what] : NONE;
    }

    public int most(int what) {
        if (isEmpty()) {
            return NONE;
        }
        switch (what) {
            case 0:
                return now.cores.mostAlike();
            case 1:
                return now.cores.columnOfMostAlike();
            case 2:
                return now.cores.mostForced(settings);
            case 3:
                return now.cores.nearestPair();
            case 4:
                return now.cores.squareOfPair(now.cores.nearestPair());
            case 5:
                walls.find(now.sheet);
                return walls.mostLinks();
            case 6:
                return now.cores.greatestNumber();
            case 7:
                return now.cores.withOpposite();
            default:
                return NONE;
        }
    }

    public int count(int what) {
        switch (what) {
            case 0:
                return tape.length;
            case 1:
                return past.size;
            case 2:
                return rounds.size();
            default:
                return NONE;
        }
    }

    private boolean isEmpty() {
        return now.sheet.width == 0;
    }

    private int refuse(int why) {
        if (why >= 0 && why < refused.length) {
            refused[why]++;
        }
        return NONE;
    }

    /** The links came from a snapshot, which keeps no cores. */
    private int afterReturn(int answer) {
        now.cores.find(now.sheet);
        return answer;
    }

    /** Whether a part that moves leaves a core behind and makes another one where none was. */
    private boolean wouldSplit(int x, int y, int dx, int dy, int direction) {
        if (direction < 0 || direction > 3) {
            return false;
        }
        int nextX = x + ACROSS[direction];
        int nextY = y + UPWARDS[direction];
        boolean leavesSome = now.sheet.vectorOf(x, y, 0) != dx || now.sheet.vectorOf(x, y, 1) != dy;
        return leavesSome && now.sheet.hasFace(nextX, nextY) && now.sheet.isPlain(nextX, nextY);
    }

    private static int wayOfVector(int dx, int dy) {
        if (dy == 0) {
            return dx == 0 ? NONE : 0;
        }
        return dx == 0 ? 1 : NONE;
    }

    private static int directionOf(int letter) {
        switch (letter) {
            case 'r':
                return 0;
            case 'u':
                return 1;
            case 'l':
                return 2;
            case 'd':
                return 3;
            default:
                return NONE;
        }
    }

    private static boolean isShift(int number) {
        return number >= -MOST_SHIFT && number <= MOST_SHIFT;
    }

    private static long nextState(long state) {
        return state * 6364136223846793005L + 1442695040888963407L;
    }

    private static int drawOf(long state, int m) {
        return m > 0 ? (int) ((state >>> 33) % m) : 0;
    }

    /** The bytes that were fed; none of them is 0, so that 0 can stand for the end. */
    private static final class Tape {
        static final int ROOM = 300;
        private final int[] bytes = new int[ROOM];
        int length;

        static int bytesOf(int word) {
            int found = 0;
            for (int shift = 24; shift >= 0; shift -= 8) {
                if ((word >>> shift & 255) != 0) {
                    found++;
                }
            }
            return found;
        }

        void put(int word) {
            for (int shift = 24; shift >= 0; shift -= 8) {
                int value = word >>> shift & 255;
                if (value != 0 && length >= 0 && length < ROOM) {
                    bytes[length] = value;
                    length++;
                }
            }
        }

        int byteAt(int place) {
            return place >= 0 && place < length && place < ROOM ? bytes[place] : 0;
        }
    }

    /** Reads the tape as a crystal's text; behind the first fault nothing more is read. */
    private static final class Reader {
        private static final int MOST_TOLD = 10;
        private final Tape tape;
        private int at;
        private int begun;
        private int fault;
        int width;
        int height;
        final int[] settings = new int[4];
        private boolean stressTold;
        private boolean holdTold;
        private boolean lawTold;
        int cores;
        final int[] places = new int[2 * MOST_TOLD];
        final int[] vectors = new int[2 * MOST_TOLD];

        Reader(Tape tape) {
            this.tape = tape;
        }

        /** The fault, or NONE; then what was told stands in the fields. */
        int read() {
            at = 0;
            fault = NONE;
            cores = 0;
            stressTold = false;
            holdTold = false;
            lawTold = false;
            System.arraycopy(USUAL_SETTING, 0, settings, 0, settings.length);
            readSize();
            for (int piece = 0; piece < Tape.ROOM && fault == NONE && nextByte() != 0; piece++) {
                readSemicolon();
                readPiece();
            }
            return fault;
        }

        private void readSize() {
            readWord();
            if (!spells("size")) {
                fault = begun;
            }
            width = readNumber(2, Sheet.SIDE);
            height = readNumber(2, Sheet.SIDE);
        }

        private void readSemicolon() {
            if (nextByte() == ';') {
                at++;
            } else {
                fault = at;
            }
        }

        private void readPiece() {
            if (fault != NONE) {
                return;
            }
            readWord();
            if (spells("core") && cores < MOST_TOLD) {
                readCore();
            } else if (spells("stress") && !stressTold) {
                stressTold = true;
                readSetting(0);
                readSetting(1);
            } else if (spells("hold") && !holdTold) {
                holdTold = true;
                readSetting(HOLD);
            } else if (spells("rule") && !lawTold) {
                lawTold = true;
                readSetting(LAW);
            } else {
                fault = begun;
            }
        }

        private void readCore() {
            int x = readNumber(0, width - 2);
            int y = readNumber(0, height - 2);
            if (fault == NONE && isTold(x, y)) {
                fault = begun;
            }
            int dx = readNumber(-2, 2);
            int dy = readNumber(-2, 2);
            if (fault == NONE && dx == 0 && dy == 0) {
                fault = begun;
            }
            if (fault == NONE && cores >= 0 && cores < MOST_TOLD) {
                places[2 * cores] = x;
                places[2 * cores + 1] = y;
                vectors[2 * cores] = dx;
                vectors[2 * cores + 1] = dy;
                cores++;
            }
        }

        private boolean isTold(int x, int y) {
            for (int i = 0; i < cores && i < MOST_TOLD; i++) {
                if (places[2 * i] == x && places[2 * i + 1] == y) {
                    return true;
                }
            }
            return false;
        }

        private void readSetting(int which) {
            if (which >= 0 && which < settings.length) {
                settings[which] = readNumber(LEAST_SETTING[which], MOST_SETTING[which]);
            }
        }

        /** The next byte that is no blank; 0 at the end. */
        private int nextByte() {
            while (at < tape.length && tape.byteAt(at) == ' ') {
                at++;
            }
            return tape.byteAt(at);
        }

        private void readWord() {
            nextByte();
            begun = at;
            while (at < tape.length && tape.byteAt(at) >= 'a' && tape.byteAt(at) <= 'z') {
                at++;
            }
        }

        /** Whether the word that was read last is this one. */
        private boolean spells(String word) {
            if (at - begun != word.length()) {
                return false;
            }
            for (int i = 0; i < word.length(); i++) {
                if (tape.byteAt(begun + i) != word.charAt(i)) {
                    return false;
                }
            }
            return true;
        }

        private int readNumber(int least, int most) {
            if (fault != NONE) {
                return 0;
            }
            boolean minus = nextByte() == '-';
            begun = at;
            if (minus) {
                at++;
            }
            int value = 0;
            int digits = 0;
            while (at < tape.length && tape.byteAt(at) >= '0' && tape.byteAt(at) <= '9') {
                if (digits < 2) {
                    value = 10 * value + tape.byteAt(at) - '0';
                }
                digits++;
                at++;
            }
            if (minus) {
                value = -value;
            }
            if (digits < 1 || digits > 2 || value < least || value > most) {
                fault = begun;
            }
            return value;
        }
    }

    /** The sites and the steps of the links between them; without a crystal its width is 0. */
    private static final class Sheet {
        static final int SIDE = 9;
        static final int LINKS = 2 * SIDE * SIDE;
        int width;
        int height;
        final int[] steps = new int[2 * LINKS];

        void lay(int wide, int high) {
            width = wide;
            height = high;
            for (int i = 0; i + 3 < steps.length; i += 4) {
                steps[i] = 1;
                steps[i + 1] = 0;
                steps[i + 2] = 0;
                steps[i + 3] = 1;
            }
        }

        void copy(Sheet other) {
            width = other.width;
            height = other.height;
            System.arraycopy(other.steps, 0, steps, 0, steps.length);
        }

        boolean hasSite(int x, int y) {
            return x >= 0 && x < width && x < SIDE && y >= 0 && y < height && y < SIDE;
        }

        boolean hasFace(int x, int y) {
            return x >= 0 && x < width - 1 && x < SIDE - 1 && y >= 0 && y < height - 1 && y < SIDE - 1;
        }

        /** A link's site has one more to the right of it, or above it. */
        boolean hasLink(int x, int y, int rise) {
            return (rise == 0 || rise == 1) && x >= 0 && x < width - 1 + rise && x < SIDE
                    && y >= 0 && y < height - rise && y < SIDE;
        }

        int stepOf(int x, int y, int rise, int part) {
            return hasLink(x, y, rise) && (part == 0 || part == 1) ? steps[placeOf(x, y, rise) + part] : 0;
        }

        void addTo(int x, int y, int rise, int dx, int dy) {
            if (hasLink(x, y, rise)) {
                steps[placeOf(x, y, rise)] += dx;
                steps[placeOf(x, y, rise) + 1] += dy;
            }
        }

        private static int placeOf(int x, int y, int rise) {
            return 4 * (SIDE * y + x) + 2 * rise;
        }

        /** Links are numbered by their sites, by y, then by x, the one to the right first. */
        static int numberOf(int x, int y, int rise) {
            return 2 * (SIDE * y + x) + rise;
        }

        boolean isSlipped(int x, int y, int rise) {
            return hasLink(x, y, rise)
                    && (stepOf(x, y, rise, 0) != 1 - rise || stepOf(x, y, rise, 1) != rise);
        }

        int slippedLinks() {
            int found = 0;
            for (int y = 0; y < height; y++) {
                found += slippedFrom(y, 0) + slippedFrom(y, 1);
            }
            return found;
        }

        int slippedFrom(int y, int rise) {
            int found = 0;
            for (int x = 0; x < width; x++) {
                if (isSlipped(x, y, rise)) {
                    found++;
                }
            }
            return found;
        }

        int sumAlong(int y, int part) {
            int sum = 0;
            for (int x = 0; x < width - 1; x++) {
                sum += stepOf(x, y, 0, part);
            }
            return sum;
        }

        /** What a path's one link from a site tells. */
        int strideFrom(int x, int y, int direction, int part) {
            switch (direction) {
                case 0:
                    return stepOf(x, y, 0, part);
                case 1:
                    return stepOf(x, y, 1, part);
                case 2:
                    return -stepOf(x - 1, y, 0, part);
                default:
                    return -stepOf(x, y - 1, 1, part);
            }
        }

        int sumRound(int x0, int y0, int x1, int y1, int part) {
            int sum = 0;
            for (int x = x0; x < x1; x++) {
                sum += stepOf(x, y0, 0, part) - stepOf(x, y1, 0, part);
            }
            for (int y = y0; y < y1; y++) {
                sum += stepOf(x1, y, 1, part) - stepOf(x0, y, 1, part);
            }
            return sum;
        }

        int sumRoundAll(int part) {
            return sumRound(0, 0, width - 1, height - 1, part);
        }

        int vectorOf(int x, int y, int part) {
            if (!hasFace(x, y) || (part != 0 && part != 1)) {
                return 0;
            }
            return steps[placeOf(x, y, 0) + part] + steps[placeOf(x + 1, y, 1) + part]
                    - steps[placeOf(x, y + 1, 0) + part] - steps[placeOf(x, y, 1) + part];
        }

        boolean isPlain(int x, int y) {
            return vectorOf(x, y, 0) == 0 && vectorOf(x, y, 1) == 0;
        }

        /** Moves a vector from a face to the next one: CANCELLED, WENT_OUT, else GLIDED, even if it climbed. */
        int carry(int x, int y, int dx, int dy, int direction) {
            if (direction < 0 || direction > 3) {
                return GLIDED;
            }
            switch (direction) {
                case 0:
                    addTo(x + 1, y, 1, -dx, -dy);
                    break;
                case 1:
                    addTo(x, y + 1, 0, dx, dy);
                    break;
                case 2:
                    addTo(x, y, 1, dx, dy);
                    break;
                default:
                    addTo(x, y, 0, -dx, -dy);
                    break;
            }
            int nextX = x + ACROSS[direction];
            int nextY = y + UPWARDS[direction];
            if (!hasFace(nextX, nextY)) {
                return WENT_OUT;
            }
            return isPlain(nextX, nextY) ? CANCELLED : GLIDED;
        }

        void shiftSite(int x, int y, int dx, int dy) {
            addTo(x - 1, y, 0, dx, dy);
            addTo(x, y - 1, 1, dx, dy);
            addTo(x, y, 0, -dx, -dy);
            addTo(x, y, 1, -dx, -dy);
        }
    }

    /** The cores of a sheet as they were when they were last found. */
    private static final class Cores {
        int size;
        private final int[] places = new int[2 * MOST_CORES];
        private final int[] vectors = new int[2 * MOST_CORES];

        void find(Sheet sheet) {
            size = 0;
            for (int y = 0; y < sheet.height - 1; y++) {
                for (int x = 0; x < sheet.width - 1; x++) {
                    int dx = sheet.vectorOf(x, y, 0);
                    int dy = sheet.vectorOf(x, y, 1);
                    if ((dx != 0 || dy != 0) && size < MOST_CORES) {
                        places[2 * size] = x;
                        places[2 * size + 1] = y;
                        vectors[2 * size] = dx;
                        vectors[2 * size + 1] = dy;
                        size++;
                    }
                }
            }
        }

        private boolean has(int i, int axis) {
            return i >= 0 && i < size && i < MOST_CORES && (axis == 0 || axis == 1);
        }

        int placeOf(int i, int axis) {
            return has(i, axis) ? places[2 * i + axis] : 0;
        }

        int numberOf(int i, int axis) {
            return has(i, axis) ? vectors[2 * i + axis] : 0;
        }

        int wayOf(int i) {
            return wayOfVector(numberOf(i, 0), numberOf(i, 1));
        }

        int indexAt(int x, int y) {
            for (int i = 0; i < size; i++) {
                if (placeOf(i, 0) == x && placeOf(i, 1) == y) {
                    return i;
                }
            }
            return NONE;
        }

        int inBox(int x0, int y0, int x1, int y1) {
            int found = 0;
            for (int i = 0; i < size; i++) {
                int x = placeOf(i, 0);
                int y = placeOf(i, 1);
                if (x >= x0 && x < x1 && y >= y0 && y < y1) {
                    found++;
                }
            }
            return found;
        }

        int withoutWay() {
            int found = 0;
            for (int i = 0; i < size; i++) {
                if (wayOf(i) == NONE) {
                    found++;
                }
            }
            return found;
        }

        int forceOn(int i, int[] settings) {
            int way = wayOf(i);
            if (way < 0 || settings.length <= LAW) {
                return 0;
            }
            int own = numberOf(i, way);
            int force = settings[way] * own;
            for (int j = 0; j < size; j++) {
                if (j != i) {
                    int along = placeOf(i, way) - placeOf(j, way);
                    int across = placeOf(i, 1 - way) - placeOf(j, 1 - way);
                    force += pull(settings[LAW], own * numberOf(j, way), along, across);
                }
            }
            return force;
        }

        private static int pull(int law, int product, int along, int across) {
            int square = along * along + across * across;
            if (square <= 0) {
                return 0;
            }
            if (law == 0) {
                return 1000 * product * along * (along * along - across * across) / (square * square);
            }
            if (law == 1) {
                return 100 * product * Integer.signum(along) / (Math.abs(along) + Math.abs(across));
            }
            return 60 * product * along / square;
        }

        int greatestForce(int[] settings) {
            int greatest = 0;
            for (int i = 0; i < size; i++) {
                greatest = Math.max(greatest, Math.abs(forceOn(i, settings)));
            }
            return greatest;
        }

        /** A core without a way has the force 0 here, as core() tells it. */
        int mostForced(int[] settings) {
            int greatest = greatestForce(settings);
            for (int i = 0; i < size; i++) {
                if (Math.abs(forceOn(i, settings)) == greatest) {
                    return i;
                }
            }
            return NONE;
        }

        int energy() {
            int sum = 0;
            for (int i = 0; i < size; i++) {
                sum += 50 * productOf(i, i);
                for (int j = i + 1; j < size; j++) {
                    int square = squareBetween(i, j);
                    sum += square > 0 ? 100 * productOf(i, j) / square : 0;
                }
            }
            return sum;
        }

        private int productOf(int i, int j) {
            return numberOf(i, 0) * numberOf(j, 0) + numberOf(i, 1) * numberOf(j, 1);
        }

        private int squareBetween(int i, int j) {
            int across = placeOf(i, 0) - placeOf(j, 0);
            int upwards = placeOf(i, 1) - placeOf(j, 1);
            return across * across + upwards * upwards;
        }

        /** The next core in the same row or column on the side that the sign tells. */
        int nextAlong(int core, int way, int sign) {
            int best = NONE;
            int least = Sheet.SIDE;
            for (int i = 0; i < size; i++) {
                int far = sign * (placeOf(i, way) - placeOf(core, way));
                if (placeOf(i, 1 - way) == placeOf(core, 1 - way) && far > 0 && far < least) {
                    best = i;
                    least = far;
                }
            }
            return best;
        }

        boolean areOpposite(int i, int j) {
            return numberOf(i, 0) == -numberOf(j, 0) && numberOf(i, 1) == -numberOf(j, 1);
        }

        boolean hasOpposite(int i) {
            for (int j = 0; j < size; j++) {
                if (j != i && areOpposite(i, j)) {
                    return true;
                }
            }
            return false;
        }

        int withOpposite() {
            int found = 0;
            for (int i = 0; i < size; i++) {
                if (hasOpposite(i)) {
                    found++;
                }
            }
            return found;
        }

        /** How many cores of a core's column have its vector, itself among them. */
        private int alikeInColumn(int i) {
            int found = 0;
            for (int j = 0; j < size; j++) {
                if (placeOf(j, 0) == placeOf(i, 0) && numberOf(j, 0) == numberOf(i, 0)
                        && numberOf(j, 1) == numberOf(i, 1)) {
                    found++;
                }
            }
            return found;
        }

        int mostAlike() {
            int greatest = 0;
            for (int i = 0; i < size; i++) {
                greatest = Math.max(greatest, alikeInColumn(i));
            }
            return greatest;
        }

        int columnOfMostAlike() {
            int greatest = mostAlike();
            int column = NONE;
            for (int i = 0; i < size; i++) {
                if (alikeInColumn(i) == greatest && (column == NONE || placeOf(i, 0) < column)) {
                    column = placeOf(i, 0);
                }
            }
            return column;
        }

        int nearestPair() {
            int best = NONE;
            for (int i = 0; i < size; i++) {
                for (int j = i + 1; j < size; j++) {
                    if (best == NONE || squareBetween(i, j) < squareOfPair(best)) {
                        best = 16 * i + j;
                    }
                }
            }
            return best;
        }

        int squareOfPair(int pair) {
            return pair == NONE ? 0 : squareBetween(pair / 16, pair % 16);
        }

        int greatestNumber() {
            int greatest = 0;
            for (int i = 0; i < size; i++) {
                greatest = Math.max(greatest, Math.max(Math.abs(numberOf(i, 0)), Math.abs(numberOf(i, 1))));
            }
            return greatest;
        }
    }

    /** A sheet with its cores, and what the rounds on it came to. */
    private static final class Crystal {
        final Sheet sheet = new Sheet();
        final Cores cores = new Cores();
        // How many glided, cancelled, went out since the tally was cleared.
        final int[] tally = new int[3];

        void build(Reader reader) {
            sheet.lay(reader.width, reader.height);
            for (int i = 0; i < reader.cores && 2 * i + 1 < reader.places.length; i++) {
                for (int x = 0; x <= reader.places[2 * i]; x++) {
                    sheet.addTo(x, reader.places[2 * i + 1], 1, -reader.vectors[2 * i], -reader.vectors[2 * i + 1]);
                }
            }
            cores.find(sheet);
        }

        void copy(Crystal other) {
            sheet.copy(other.sheet);
            cores.find(sheet);
        }

        void clearTally() {
            for (int i = 0; i < tally.length; i++) {
                tally[i] = 0;
            }
        }

        /** The cores are found anew only behind the round, so forces and vectors are those that it began with. */
        void playRound(int[] settings) {
            for (int i = 0; i < cores.size; i++) {
                int force = cores.forceOn(i, settings);
                if (HOLD < settings.length && Math.abs(force) > settings[HOLD] && isUnchanged(i)) {
                    glide(i, force > 0);
                }
            }
            cores.find(sheet);
        }

        private boolean isUnchanged(int i) {
            int x = cores.placeOf(i, 0);
            int y = cores.placeOf(i, 1);
            return sheet.vectorOf(x, y, 0) == cores.numberOf(i, 0) && sheet.vectorOf(x, y, 1) == cores.numberOf(i, 1);
        }

        /** For cores that have a way. */
        void glide(int i, boolean along) {
            int direction = cores.wayOf(i) + (along ? 0 : 2);
            int outcome = sheet.carry(cores.placeOf(i, 0), cores.placeOf(i, 1),
                    cores.numberOf(i, 0), cores.numberOf(i, 1), direction);
            tally[0]++;
            if (outcome == CANCELLED) {
                tally[1]++;
            } else if (outcome == WENT_OUT) {
                tally[2]++;
            }
        }
    }

    /** The boxes that halving goes through, one at a time. */
    private static final class Halving {
        // Eight faces by eight are halved six times.
        private static final int MOST_HALVINGS = 6;
        private int x0;
        private int y0;
        private int x1;
        private int y1;

        int boxesOf(Sheet sheet) {
            begin(sheet);
            if (isPlain(sheet, x1, y1)) {
                return 0;
            }
            int boxes = 1;
            for (int i = 0; i < MOST_HALVINGS && narrow(sheet); i++) {
                boxes++;
            }
            return boxes;
        }

        void reach(Sheet sheet, int k) {
            begin(sheet);
            for (int i = 0; i < k && i < MOST_HALVINGS; i++) {
                narrow(sheet);
            }
        }

        int sideOf(int what) {
            switch (what) {
                case 0:
                    return x0;
                case 1:
                    return y0;
                case 2:
                    return x1;
                default:
                    return y1;
            }
        }

        private void begin(Sheet sheet) {
            x0 = 0;
            y0 = 0;
            x1 = sheet.width - 1;
            y1 = sheet.height - 1;
        }

        private boolean narrow(Sheet sheet) {
            int wide = x1 - x0;
            int high = y1 - y0;
            if (wide <= 1 && high <= 1) {
                return false;
            }
            if (wide >= high) {
                int middle = x0 + wide / 2;
                if (isPlain(sheet, middle, y1)) {
                    x0 = middle;
                } else {
                    x1 = middle;
                }
            } else {
                int middle = y0 + high / 2;
                if (isPlain(sheet, x1, middle)) {
                    y0 = middle;
                } else {
                    y1 = middle;
                }
            }
            return true;
        }

        /** Whether nothing is found round the box that ends at a site. */
        private boolean isPlain(Sheet sheet, int endX, int endY) {
            return sheet.sumRound(x0, y0, endX, endY, 0) == 0 && sheet.sumRound(x0, y0, endX, endY, 1) == 0;
        }
    }

    /** The latest rounds; the round with the number n stands in row n modulo their most. */
    private static final class Log {
        private static final int MOST = 40;
        private static final int WIDE = 4;
        final int[] rows = new int[MOST * WIDE];
        int total;

        int size() {
            return Math.min(total, MOST);
        }

        void add(int[] tally, int cores) {
            int row = WIDE * Math.floorMod(total, MOST);
            for (int i = 0; i < tally.length && i < WIDE - 1; i++) {
                rows[row + i] = tally[i];
            }
            rows[row + WIDE - 1] = cores;
            total++;
        }

        int entry(int back, int what) {
            return what >= 0 && what < WIDE ? rows[WIDE * Math.floorMod(total - 1 - back, MOST) + what] : NONE;
        }
    }

    /** Links and log as they once were. */
    private static final class Snapshot {
        private final int[] steps = new int[2 * Sheet.LINKS];
        private final int[] rows = new int[Log.MOST * Log.WIDE];
        private int total;

        void take(Sheet sheet, Log log) {
            System.arraycopy(sheet.steps, 0, steps, 0, steps.length);
            System.arraycopy(log.rows, 0, rows, 0, rows.length);
            total = log.total;
        }

        void give(Sheet sheet, Log log) {
            System.arraycopy(steps, 0, sheet.steps, 0, steps.length);
            System.arraycopy(rows, 0, log.rows, 0, rows.length);
            log.total = total;
        }
    }

    /** What was ahead of each of the latest acts; a snapshot is made when first needed, then used again. */
    private static final class Past {
        private static final int MOST = 20;
        private final Snapshot[] ring = new Snapshot[MOST];
        private int next;
        int size;

        void forget() {
            size = 0;
        }

        void remember(Sheet sheet, Log log) {
            int slot = Math.floorMod(next, MOST);
            Snapshot snapshot = ring[slot];
            if (snapshot == null) {
                snapshot = new Snapshot();
                ring[slot] = snapshot;
            }
            snapshot.take(sheet, log);
            next = slot + 1;
            size = Math.min(size + 1, MOST);
        }

        boolean restore(Sheet sheet, Log log) {
            int slot = Math.floorMod(next - 1, MOST);
            Snapshot snapshot = ring[slot];
            if (size <= 0 || snapshot == null) {
                return false;
            }
            snapshot.give(sheet, log);
            next = slot;
            size--;
            return true;
        }
    }

    /** Slipped links that belong together; each points to a lower one of its wall, the wall's first one to itself. */
    private static final class Walls {
        private final int[] lower = new int[Sheet.LINKS];

        void find(Sheet sheet) {
            for (int y = 0; y < Sheet.SIDE; y++) {
                for (int x = 0; x < Sheet.SIDE; x++) {
                    for (int rise = 0; rise < 2; rise++) {
                        int link = Sheet.numberOf(x, y, rise);
                        lower[link] = sheet.isSlipped(x, y, rise) ? link : NONE;
                    }
                }
            }
            for (int y = 0; y < sheet.height - 1; y++) {
                for (int x = 0; x < sheet.width - 1; x++) {
                    joinRound(x, y);
                }
            }
        }

        private void joinRound(int x, int y) {
            int joined = NONE;
            for (int side = 0; side < 4; side++) {
                int first = firstOf(linkBeside(x, y, side));
                if (joined == NONE || first == NONE) {
                    joined = Math.max(joined, first);
                } else {
                    int high = Math.max(joined, first);
                    joined = Math.min(joined, first);
                    lower[high] = joined;
                }
            }
        }

        private static int linkBeside(int x, int y, int side) {
            switch (side) {
                case 0:
                    return Sheet.numberOf(x, y, 0);
                case 1:
                    return Sheet.numberOf(x + 1, y, 1);
                case 2:
                    return Sheet.numberOf(x, y + 1, 0);
                default:
                    return Sheet.numberOf(x, y, 1);
            }
        }

        /** The first link of a link's wall. NONE: it isn't slipped. */
        private int firstOf(int link) {
            int at = link;
            for (int i = 0; i < Sheet.LINKS; i++) {
                if (at < 0 || at >= Sheet.LINKS) {
                    return NONE;
                }
                if (lower[at] == at) {
                    return at;
                }
                at = lower[at];
            }
            return NONE;
        }

        int size() {
            int found = 0;
            for (int i = 0; i < Sheet.LINKS; i++) {
                if (lower[i] == i) {
                    found++;
                }
            }
            return found;
        }

        int firstLinkOf(int wall) {
            int left = wall;
            for (int i = 0; i < Sheet.LINKS && left >= 0; i++) {
                if (lower[i] == i) {
                    if (left == 0) {
                        return i;
                    }
                    left--;
                }
            }
            return NONE;
        }

        int linksOf(int first) {
            int found = 0;
            for (int i = 0; i < Sheet.LINKS; i++) {
                if (firstOf(i) == first) {
                    found++;
                }
            }
            return found;
        }

        int mostLinks() {
            int greatest = 0;
            for (int i = 0; i < Sheet.LINKS; i++) {
                if (lower[i] == i) {
                    greatest = Math.max(greatest, linksOf(i));
                }
            }
            return greatest;
        }

        int coresBeside(int first, Cores cores) {
            int found = 0;
            for (int i = 0; i < cores.size; i++) {
                if (isBeside(first, cores.placeOf(i, 0), cores.placeOf(i, 1))) {
                    found++;
                }
            }
            return found;
        }

        private boolean isBeside(int first, int x, int y) {
            for (int side = 0; side < 4; side++) {
                if (firstOf(linkBeside(x, y, side)) == first) {
                    return true;
                }
            }
            return false;
        }
    }

    /** The cheapest way to be rid of all cores. */
    private static final class Riddance {
        int cost;
        private final int[] partners = new int[MOST_CORES];
        private final int[] leaving = new int[MOST_CORES];
        // Cores that have an opposite; only these have a choice.
        private final int[] choosers = new int[MOST_CORES];
        private int choosing;
        // What two choosers pay to meet; NONE: they can't.
        private final int[] meeting = new int[MOST_CORES * MOST_CORES];
        // The least cost of each set of choosers, a bit each.
        private int[] least = new int[1];

        void plan(Crystal crystal, int price) {
            weigh(crystal, price);
            fillLeast();
            int all = (1 << choosing) - 1;
            cost += leastOf(all);
            choose(all);
        }

        int partnerOf(int core) {
            return core >= 0 && core < MOST_CORES ? partners[core] : NONE;
        }

        private void weigh(Crystal crystal, int price) {
            Cores cores = crystal.cores;
            cost = 0;
            choosing = 0;
            for (int i = 0; i < cores.size && i < MOST_CORES; i++) {
                partners[i] = i;
                leaving[i] = costToLeave(crystal, i, price);
                if (cores.hasOpposite(i) && choosing < MOST_CORES) {
                    choosers[choosing] = i;
                    choosing++;
                } else {
                    cost += leaving[i];
                }
            }
            for (int a = 0; a < choosing; a++) {
                for (int b = a + 1; b < choosing; b++) {
                    meeting[MOST_CORES * a + b] = costToMeet(cores, choosers[a], choosers[b], price);
                }
            }
        }

        private static int costToLeave(Crystal crystal, int i, int price) {
            int way = crystal.cores.wayOf(i);
            int x = crystal.cores.placeOf(i, 0);
            int y = crystal.cores.placeOf(i, 1);
            int sideways = Math.min(x + 1, crystal.sheet.width - 1 - x);
            int upright = Math.min(y + 1, crystal.sheet.height - 1 - y);
            return Math.min(sideways * costOfMove(way, 0, price), upright * costOfMove(way, 1, price));
        }

        private static int costToMeet(Cores cores, int i, int j, int price) {
            if (!cores.areOpposite(i, j)) {
                return NONE;
            }
            int way = cores.wayOf(i);
            return Math.abs(cores.placeOf(i, 0) - cores.placeOf(j, 0)) * costOfMove(way, 0, price)
                    + Math.abs(cores.placeOf(i, 1) - cores.placeOf(j, 1)) * costOfMove(way, 1, price);
        }

        private static int costOfMove(int way, int axis, int price) {
            return way == axis ? 1 : price;
        }

        private void fillLeast() {
            int sets = 1 << choosing;
            if (least.length < sets) {
                least = new int[sets];
            }
            for (int set = 1; set < sets && set < least.length; set++) {
                int lowest = lowestOf(set);
                int best = costAlone(set, lowest);
                for (int other = lowest + 1; other < choosing; other++) {
                    if (canMeet(set, lowest, other)) {
                        best = Math.min(best, costTogether(set, lowest, other));
                    }
                }
                least[set] = best;
            }
        }

        /** Chooser by chooser: out ahead of another one, the lower other one first. */
        private void choose(int all) {
            int set = all;
            for (int i = 0; i < MOST_CORES && set != 0; i++) {
                int lowest = lowestOf(set);
                int with = lowest;
                if (costAlone(set, lowest) != leastOf(set)) {
                    with = cheapestOther(set, lowest);
                    partners[choosers[lowest]] = choosers[with];
                    partners[choosers[with]] = choosers[lowest];
                }
                set &= ~(1 << lowest | 1 << with);
            }
        }

        private int cheapestOther(int set, int lowest) {
            for (int other = lowest + 1; other < choosing; other++) {
                if (canMeet(set, lowest, other) && costTogether(set, lowest, other) == leastOf(set)) {
                    return other;
                }
            }
            return lowest;
        }

        private int lowestOf(int set) {
            for (int i = 0; i < choosing; i++) {
                if ((set >> i & 1) == 1) {
                    return i;
                }
            }
            return 0;
        }

        private boolean canMeet(int set, int a, int b) {
            return (set >> b & 1) == 1 && meeting[MOST_CORES * a + b] != NONE;
        }

        private int costAlone(int set, int a) {
            return leaving[choosers[a]] + leastOf(set & ~(1 << a));
        }

        private int costTogether(int set, int a, int b) {
            return meeting[MOST_CORES * a + b] + leastOf(set & ~(1 << a | 1 << b));
        }

        private int leastOf(int set) {
            return set > 0 && set < least.length ? least[set] : 0;
        }
    }
}
