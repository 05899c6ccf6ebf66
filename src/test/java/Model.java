import java.util.ArrayDeque;
import java.util.ArrayList;
import java.util.Arrays;
import java.util.Collections;
import java.util.HashMap;
import java.util.List;
import java.util.Map;
import java.util.NoSuchElementException;
import java.util.TreeMap;
import java.util.TreeSet;

/** The document told a second time, plainly and slowly, for ModelTest to hold the class against. */
final class Model {
    static final int NONE = -1;
    static final int HIDDEN = -1000000;

    /** A link's key: its site's y, x, and 0 to the right, 1 upwards; a string sorts as links are numbered. */
    private static String key(int x, int y, int up) {
        return y + " " + x + " " + up;
    }

    static final class Core {
        int x, y, dx, dy;

        int way() {
            return dy == 0 ? 0 : dx == 0 ? 1 : NONE;
        }
    }

    static final class State {
        TreeMap<String, int[]> links = new TreeMap<>();
        List<int[]> log = new ArrayList<>();
        int rounds;

        State copy() {
            State c = new State();
            for (Map.Entry<String, int[]> e : links.entrySet()) {
                c.links.put(e.getKey(), e.getValue().clone());
            }
            for (int[] row : log) {
                c.log.add(row.clone());
            }
            c.rounds = rounds;
            return c;
        }
    }

    String tape = "";
    int w, h, s, t, hold, law;
    State state = new State();
    ArrayDeque<State> acts = new ArrayDeque<>();
    State image;
    int[] gone;
    int[] refused = new int[4];

    boolean none() {
        return w == 0;
    }

    int refuse(int why) {
        refused[why]++;
        return NONE;
    }

    // ---- the tape and the text

    int feed(int a, int b, int c, int d, int e) {
        StringBuilder more = new StringBuilder();
        for (int word : new int[] {a, b, c, d, e}) {
            for (int i = 3; i >= 0; i--) {
                int v = (word >> (8 * i)) & 0xff;
                if (v > 0) {
                    more.append((char) v);
                }
            }
        }
        if (tape.length() + more.length() > 300) {
            return NONE;
        }
        tape += more;
        return tape.length();
    }

    boolean end(int n) {
        if (n < 0 || n > tape.length()) {
            return false;
        }
        tape = tape.substring(0, n);
        return true;
    }

    static final class Part {
        char kind; // w word, n number, s sign or another byte, e the end
        String said;
        int begins;
    }

    static List<Part> parts(String text) {
        List<Part> all = new ArrayList<>();
        java.util.regex.Matcher m = java.util.regex.Pattern.compile("([a-z]+)|(-?[0-9]+)|( +)|([\\x00-\\xff])",
                java.util.regex.Pattern.DOTALL).matcher(text);
        while (m.find()) {
            if (m.group(3) != null) {
                continue;
            }
            Part p = new Part();
            p.kind = m.group(1) != null ? 'w' : m.group(2) != null ? 'n' : 's';
            p.said = m.group();
            p.begins = m.start();
            all.add(p);
        }
        Part p = new Part();
        p.kind = 'e';
        p.said = "";
        p.begins = text.length();
        all.add(p);
        return all;
    }

    static final class Told {
        int fault = NONE;
        int w, h, s, t, hold = 10, law;
        List<int[]> cores = new ArrayList<>();
    }

    private static int number(Part p, int low, int high) {
        if (p.kind != 'n') {
            return 999;
        }
        String digits = p.said.replace("-", "");
        if (digits.length() > 2) {
            return 999;
        }
        int v = Integer.parseInt(p.said);
        return v < low || v > high ? 999 : v;
    }

    static Told read(String text) {
        Told told = new Told();
        List<Part> ps = parts(text);
        List<String> once = new ArrayList<>();
        int i = 0;
        boolean first = true;
        while (true) {
            Part word = ps.get(i++);
            List<int[]> bounds = new ArrayList<>();
            String name = word.kind == 'w' ? word.said : "";
            boolean good = first == name.equals("size");
            switch (name) {
                case "size": bounds = Arrays.asList(new int[] {2, 9}, new int[] {2, 9}); break;
                case "core": bounds = Arrays.asList(new int[] {0, told.w - 2}, new int[] {0, told.h - 2},
                        new int[] {-2, 2}, new int[] {-2, 2});
                    good &= told.cores.size() < 10;
                    break;
                case "stress": bounds = Arrays.asList(new int[] {-20, 20}, new int[] {-20, 20}); break;
                case "hold": bounds = Collections.singletonList(new int[] {0, 99}); break;
                case "rule": bounds = Collections.singletonList(new int[] {0, 2}); break;
                default: good = false;
            }
            good &= !once.contains(name);
            if (!good) {
                told.fault = word.begins;
                return told;
            }
            if (!name.equals("core")) {
                once.add(name);
            }
            int[] got = new int[bounds.size()];
            for (int b = 0; b < got.length; b++) {
                Part p = ps.get(i++);
                got[b] = number(p, bounds.get(b)[0], bounds.get(b)[1]);
                boolean bad = got[b] == 999;
                if (name.equals("core") && b == 1) {
                    for (int[] c : told.cores) {
                        bad |= c[0] == got[0] && c[1] == got[1];
                    }
                }
                bad |= name.equals("core") && b == 3 && got[2] == 0 && got[3] == 0;
                if (bad) {
                    told.fault = p.begins;
                    return told;
                }
            }
            switch (name) {
                case "size": told.w = got[0]; told.h = got[1]; break;
                case "core": told.cores.add(got); break;
                case "stress": told.s = got[0]; told.t = got[1]; break;
                case "hold": told.hold = got[0]; break;
                default: told.law = got[0];
            }
            first = false;
            Part sign = ps.get(i++);
            if (sign.kind == 'e') {
                return told;
            }
            if (!sign.said.equals(";")) {
                told.fault = sign.begins;
                return told;
            }
        }
    }

    int fault() {
        return read(tape).fault;
    }

    int text() {
        Told told = read(tape);
        if (told.fault != NONE) {
            return NONE;
        }
        tape = "";
        w = told.w;
        h = told.h;
        s = told.s;
        t = told.t;
        hold = told.hold;
        law = told.law;
        state = new State();
        acts.clear();
        image = null;
        gone = null;
        for (int y = 0; y < h; y++) {
            for (int x = 0; x < w; x++) {
                if (x < w - 1) {
                    state.links.put(key(x, y, 0), new int[] {1, 0});
                }
                if (y < h - 1) {
                    state.links.put(key(x, y, 1), new int[] {0, 1});
                }
            }
        }
        for (int[] c : told.cores) {
            for (int x = 0; x <= c[0]; x++) {
                int[] step = state.links.get(key(x, c[1], 1));
                step[0] -= c[2];
                step[1] -= c[3];
            }
        }
        return told.cores.size();
    }

    // ---- loops and cores

    private static int[] sum(State st, int x, int y, String letters) {
        int[] sum = new int[2];
        for (char c : letters.toCharArray()) {
            int sign = c == 'r' || c == 'u' ? 1 : -1;
            if (c == 'l') {
                x--;
            }
            if (c == 'd') {
                y--;
            }
            int[] step = st.links.get(key(x, y, c == 'r' || c == 'l' ? 0 : 1));
            sum[0] += sign * step[0];
            sum[1] += sign * step[1];
            if (c == 'r') {
                x++;
            }
            if (c == 'u') {
                y++;
            }
        }
        return sum;
    }

    private static String round(int wide, int high) {
        return "r".repeat(wide) + "u".repeat(high) + "l".repeat(wide) + "d".repeat(high);
    }

    boolean isFace(int x, int y) {
        return x >= 0 && y >= 0 && x <= w - 2 && y <= h - 2;
    }

    boolean isSite(int x, int y) {
        return x >= 0 && y >= 0 && x <= w - 1 && y <= h - 1;
    }

    int[] vector(State st, int x, int y) {
        return sum(st, x, y, "ruld");
    }

    List<Core> cores(State st) {
        List<Core> all = new ArrayList<>();
        for (int y = 0; y <= h - 2; y++) {
            for (int x = 0; x <= w - 2; x++) {
                int[] v = vector(st, x, y);
                if (v[0] != 0 || v[1] != 0) {
                    Core c = new Core();
                    c.x = x;
                    c.y = y;
                    c.dx = v[0];
                    c.dy = v[1];
                    all.add(c);
                }
            }
        }
        return all;
    }

    int force(List<Core> all, int i) {
        Core me = all.get(i);
        if (me.way() == NONE) {
            return 0;
        }
        boolean alongX = me.way() == 0;
        int own = alongX ? me.dx : me.dy;
        int sum = (alongX ? s : t) * own;
        for (Core o : all) {
            if (o == me) {
                continue;
            }
            int p = own * (alongX ? o.dx : o.dy);
            int a = alongX ? me.x - o.x : me.y - o.y;
            int b = alongX ? me.y - o.y : me.x - o.x;
            if (law == 0) {
                sum += 1000 * p * a * (a * a - b * b) / ((a * a + b * b) * (a * a + b * b));
            } else if (law == 1) {
                sum += 100 * p * (a > 0 ? 1 : a < 0 ? -1 : 0) / (Math.abs(a) + Math.abs(b));
            } else {
                sum += 60 * p * a / (a * a + b * b);
            }
        }
        return sum;
    }

    int energy(List<Core> all) {
        int sum = 0;
        for (Core a : all) {
            sum += 50 * (a.dx * a.dx + a.dy * a.dy);
        }
        for (int i = 0; i < all.size(); i++) {
            for (int j = 0; j < i; j++) {
                Core a = all.get(i);
                Core b = all.get(j);
                sum += 100 * (a.dx * b.dx + a.dy * b.dy)
                        / ((a.x - b.x) * (a.x - b.x) + (a.y - b.y) * (a.y - b.y));
            }
        }
        return sum;
    }

    /** 0 moved, 2 cancelled, 3 out. */
    int carry(State st, int x, int y, int dx, int dy, int direction) {
        int nx = x + (direction == 0 ? 1 : direction == 2 ? -1 : 0);
        int ny = y + (direction == 1 ? 1 : direction == 3 ? -1 : 0);
        String link = direction == 0 ? key(x + 1, y, 1) : direction == 1 ? key(x, y + 1, 0)
                : key(x, y, direction == 2 ? 1 : 0);
        int[] before = vector(st, x, y);
        boolean wasCore = isFace(nx, ny) && (vector(st, nx, ny)[0] != 0 || vector(st, nx, ny)[1] != 0);
        int[] step = st.links.get(link);
        // the sign is found, not told: the face must have that much less
        step[0] += dx;
        step[1] += dy;
        int[] after = vector(st, x, y);
        if (before[0] - after[0] != dx || before[1] - after[1] != dy) {
            step[0] -= 2 * dx;
            step[1] -= 2 * dy;
        }
        if (!isFace(nx, ny)) {
            return 3;
        }
        int[] there = vector(st, nx, ny);
        return wasCore && there[0] == 0 && there[1] == 0 ? 2 : 0;
    }

    int[] playRound(State st) {
        List<Core> all = cores(st);
        int[] forces = new int[all.size()];
        for (int i = 0; i < forces.length; i++) {
            forces[i] = force(all, i);
        }
        int[] row = new int[4];
        for (int i = 0; i < forces.length; i++) {
            Core c = all.get(i);
            int[] v = vector(st, c.x, c.y);
            if (Math.abs(forces[i]) > hold && v[0] == c.dx && v[1] == c.dy) {
                int direction = c.way() == 0 ? (forces[i] > 0 ? 0 : 2) : (forces[i] > 0 ? 1 : 3);
                int outcome = carry(st, c.x, c.y, c.dx, c.dy, direction);
                row[0]++;
                row[1] += outcome == 2 ? 1 : 0;
                row[2] += outcome == 3 ? 1 : 0;
            }
        }
        row[3] = cores(st).size();
        st.rounds++;
        st.log.add(0, row);
        if (st.log.size() > 40) {
            st.log.remove(40);
        }
        return row;
    }

    void act() {
        acts.push(state.copy());
        if (acts.size() > 20) {
            acts.removeLast();
        }
    }

    boolean slipped(State st, String link) {
        int[] step = st.links.get(link);
        return link.endsWith("0") ? step[0] != 1 || step[1] != 0 : step[0] != 0 || step[1] != 1;
    }

    int slipped(State st) {
        int n = 0;
        for (String link : st.links.keySet()) {
            n += slipped(st, link) ? 1 : 0;
        }
        return n;
    }

    List<TreeSet<String>> walls() {
        List<TreeSet<String>> all = new ArrayList<>();
        for (String link : state.links.keySet()) {
            if (slipped(state, link)) {
                TreeSet<String> one = new TreeSet<>();
                one.add(link);
                all.add(one);
            }
        }
        for (int y = 0; y <= h - 2; y++) {
            for (int x = 0; x <= w - 2; x++) {
                TreeSet<String> joined = new TreeSet<>();
                for (TreeSet<String> wall : new ArrayList<>(all)) {
                    if (beside(wall, x, y)) {
                        joined.addAll(wall);
                        all.remove(wall);
                    }
                }
                if (!joined.isEmpty()) {
                    all.add(joined);
                }
            }
        }
        all.sort((p, q) -> p.first().compareTo(q.first()));
        return all;
    }

    static boolean beside(TreeSet<String> wall, int x, int y) {
        return wall.contains(key(x, y, 0)) || wall.contains(key(x, y, 1))
                || wall.contains(key(x + 1, y, 1)) || wall.contains(key(x, y + 1, 0));
    }

    int rule(int what) {
        if (none()) {
            return HIDDEN;
        }
        List<Core> all = cores(state);
        switch (what) {
            case 0: return w;
            case 1: return h;
            case 2: return s;
            case 3: return t;
            case 4: return hold;
            case 5: return law;
            case 6: return all.size();
            case 7: return slipped(state);
            case 8: return state.rounds;
            case 9: return sum(state, 0, 0, round(w - 1, h - 1))[0];
            case 10: return sum(state, 0, 0, round(w - 1, h - 1))[1];
            case 11: return energy(all);
            case 12: return walls().size();
            case 13: return (int) all.stream().filter(c -> c.dx != 0 && c.dy != 0).count();
            default: return HIDDEN;
        }
    }

    int core(int i, int what) {
        List<Core> all = none() ? new ArrayList<>() : cores(state);
        if (i < 0 || i >= all.size() || what < 0 || what > 5) {
            throw new NoSuchElementException();
        }
        Core c = all.get(i);
        return new int[] {c.x, c.y, c.dx, c.dy, c.way(), force(all, i)}[what];
    }

    int face(int x, int y, int what) {
        if (none() || !isFace(x, y) || what < 0 || what > 2) {
            return HIDDEN;
        }
        if (what < 2) {
            return vector(state, x, y)[what];
        }
        return numberAt(x, y);
    }

    int numberAt(int x, int y) {
        List<Core> all = cores(state);
        for (int i = 0; i < all.size(); i++) {
            if (all.get(i).x == x && all.get(i).y == y) {
                return i;
            }
        }
        return NONE;
    }

    int link(int x, int y, boolean up, int what) {
        int[] step = state.links.get(key(x, y, up ? 1 : 0));
        return step == null || what < 0 || what > 1 ? HIDDEN : step[what];
    }

    int box(int x0, int y0, int x1, int y1, int what) {
        if (none() || !isSite(x0, y0) || !isSite(x1, y1) || x0 >= x1 || y0 >= y1 || what < 0 || what > 3) {
            return HIDDEN;
        }
        String loop = round(x1 - x0, y1 - y0);
        if (what < 2) {
            return sum(state, x0, y0, loop)[what];
        }
        if (what == 3) {
            return loop.length();
        }
        return (int) cores(state).stream().filter(c -> c.x >= x0 && c.x < x1 && c.y >= y0 && c.y < y1).count();
    }

    List<int[]> boxes() {
        List<int[]> all = new ArrayList<>();
        int[] b = {0, 0, w - 1, h - 1};
        if (plain(b)) {
            return all;
        }
        all.add(b);
        while (b[2] - b[0] > 1 || b[3] - b[1] > 1) {
            int axis = b[2] - b[0] >= b[3] - b[1] ? 0 : 1;
            int middle = b[axis] + (b[axis + 2] - b[axis]) / 2;
            int[] one = b.clone();
            one[axis + 2] = middle;
            int[] two = b.clone();
            two[axis] = middle;
            b = plain(one) ? two : one;
            all.add(b);
        }
        return all;
    }

    boolean plain(int[] b) {
        int[] v = sum(state, b[0], b[1], round(b[2] - b[0], b[3] - b[1]));
        return v[0] == 0 && v[1] == 0;
    }

    int halved(int k, int what) {
        if (none()) {
            return NONE;
        }
        List<int[]> all = boxes();
        if (k == NONE) {
            return all.size();
        }
        return k < 0 || k >= all.size() || what < 0 || what > 3 ? NONE : all.get(k)[what];
    }

    int path(int x, int y) {
        if (none() || !isSite(x, y)) {
            return NONE;
        }
        int ax = x;
        int ay = y;
        for (int i = 0; i < tape.length(); i++) {
            char c = tape.charAt(i);
            if (i == 120 || "ruld".indexOf(c) < 0) {
                return -2 - i;
            }
            ax += c == 'r' ? 1 : c == 'l' ? -1 : 0;
            ay += c == 'u' ? 1 : c == 'd' ? -1 : 0;
            if (!isSite(ax, ay)) {
                return -2 - i;
            }
        }
        int[] v = sum(state, x, y, tape);
        gone = new int[] {v[0], v[1], tape.length(), ax, ay};
        tape = "";
        return ax == x && ay == y ? 1 : 0;
    }

    int gone(int what) {
        return gone == null || what < 0 || what > 4 ? HIDDEN : gone[what];
    }

    // ---- acts

    int move(int x, int y, int part, int direction) {
        if (none()) {
            return refuse(0);
        }
        if (!isFace(x, y) || numberAt(x, y) == NONE) {
            return refuse(1);
        }
        if (part < 0 || part > 2 || direction < 0 || direction > 3) {
            return refuse(2);
        }
        int[] v = vector(state, x, y);
        int dx = part == 2 ? 0 : v[0];
        int dy = part == 1 ? 0 : v[1];
        if (dx == 0 && dy == 0) {
            return refuse(2);
        }
        State trial = state.copy();
        int outcome = carry(trial, x, y, dx, dy, direction);
        if (cores(trial).size() > 12) {
            return refuse(3);
        }
        act();
        state = trial;
        if (outcome != 0) {
            return outcome;
        }
        boolean glides = dy == 0 && (direction == 0 || direction == 2)
                || dx == 0 && (direction == 1 || direction == 3);
        return glides ? 0 : 1;
    }

    int go(int n) {
        if (none()) {
            return refuse(0);
        }
        if (n < 1 || n > 40) {
            return refuse(2);
        }
        int glided = 0;
        for (int i = 0; i < n; i++) {
            act();
            glided += playRound(state)[0];
        }
        return glided;
    }

    int log(int i, int what) {
        return i < 0 || i >= state.log.size() || what < 0 || what > 3 ? NONE : state.log.get(i)[what];
    }

    int shift(int x, int y, int dx, int dy) {
        if (none()) {
            return refuse(0);
        }
        if (!isSite(x, y)) {
            return refuse(1);
        }
        if (dx < -9 || dx > 9 || dy < -9 || dy > 9 || dx == 0 && dy == 0) {
            return refuse(2);
        }
        act();
        Map<String, Integer> signs = new HashMap<>();
        signs.put(key(x - 1, y, 0), 1);
        signs.put(key(x, y - 1, 1), 1);
        signs.put(key(x, y, 0), -1);
        signs.put(key(x, y, 1), -1);
        for (Map.Entry<String, Integer> e : signs.entrySet()) {
            int[] step = state.links.get(e.getKey());
            if (step != null) {
                step[0] += e.getValue() * dx;
                step[1] += e.getValue() * dy;
            }
        }
        return slipped(state);
    }

    int shake(int n, long seed) {
        if (none()) {
            return refuse(0);
        }
        if (n < 1 || n > 60) {
            return refuse(2);
        }
        act();
        long[] draw = {seed};
        int glided = 0;
        for (int i = 0; i < n; i++) {
            List<Core> all = cores(state);
            if (all.isEmpty()) {
                continue;
            }
            Core c = all.get(draw(draw, all.size()));
            boolean along = draw(draw, 2) == 1;
            if (c.way() != NONE) {
                carry(state, c.x, c.y, c.dx, c.dy, c.way() == 0 ? (along ? 0 : 2) : (along ? 1 : 3));
                glided++;
            }
        }
        return glided;
    }

    static int draw(long[] seed, int m) {
        java.math.BigInteger round = java.math.BigInteger.ONE.shiftLeft(64);
        java.math.BigInteger v = java.math.BigInteger.valueOf(seed[0])
                .multiply(new java.math.BigInteger("6364136223846793005"))
                .add(new java.math.BigInteger("1442695040888963407")).mod(round);
        seed[0] = v.longValue();
        return v.shiftRight(33).mod(java.math.BigInteger.valueOf(m)).intValue();
    }

    int set(int what, int v) {
        if (none()) {
            refuse(0);
            return HIDDEN;
        }
        boolean good = what == 0 || what == 1 ? v >= -20 && v <= 20 : what == 2 ? v >= 0 && v <= 99
                : what == 3 && v >= 0 && v <= 2;
        if (!good) {
            refuse(2);
            return HIDDEN;
        }
        int was;
        switch (what) {
            case 0: was = s; s = v; return was;
            case 1: was = t; t = v; return was;
            case 2: was = hold; hold = v; return was;
            default: was = law; law = v; return was;
        }
    }

    int undo() {
        if (acts.isEmpty()) {
            return NONE;
        }
        state = acts.pop();
        return acts.size();
    }

    int image() {
        if (none()) {
            return NONE;
        }
        image = state.copy();
        return state.rounds;
    }

    int back() {
        if (image == null) {
            return NONE;
        }
        state = image.copy();
        acts.clear();
        return state.rounds;
    }

    // ---- what is asked

    int wall(int k, int what) {
        List<TreeSet<String>> all = walls();
        if (k < 0 || k >= all.size() || what < 0 || what > 4) {
            return NONE;
        }
        TreeSet<String> one = all.get(k);
        String[] first = one.first().split(" ");
        switch (what) {
            case 0: return one.size();
            case 1: return Integer.parseInt(first[1]);
            case 2: return Integer.parseInt(first[0]);
            case 3: return Integer.parseInt(first[2]);
            default: return (int) cores(state).stream().filter(c -> beside(one, c.x, c.y)).count();
        }
    }

    int[] best;
    int bestCost;

    /** Every way in the order that the document prefers; the first cheapest one stays. */
    void ways(List<Core> all, int price, int[] with, int cost) {
        int i = 0;
        while (i < with.length && with[i] != NONE) {
            i++;
        }
        if (i == with.length) {
            if (best == null || cost < bestCost) {
                best = with.clone();
                bestCost = cost;
            }
            return;
        }
        Core c = all.get(i);
        int px = c.way() == 0 ? 1 : price;
        int py = c.way() == 1 ? 1 : price;
        int out = Math.min(Math.min((c.x + 1) * px, (w - 1 - c.x) * px), Math.min((c.y + 1) * py, (h - 1 - c.y) * py));
        with[i] = i;
        ways(all, price, with, cost + out);
        for (int j = i + 1; j < with.length; j++) {
            Core o = all.get(j);
            if (with[j] == NONE && o.dx + c.dx == 0 && o.dy + c.dy == 0) {
                with[i] = j;
                with[j] = i;
                ways(all, price, with, cost + Math.abs(c.x - o.x) * px + Math.abs(c.y - o.y) * py);
                with[j] = NONE;
            }
        }
        with[i] = NONE;
    }

    void plan(int price) {
        List<Core> all = cores(state);
        best = null;
        int[] with = new int[all.size()];
        Arrays.fill(with, NONE);
        ways(all, price, with, 0);
    }

    int rid(int price) {
        if (none() || price < 1 || price > 9) {
            return NONE;
        }
        plan(price);
        return bestCost;
    }

    int meets(int price, int core) {
        if (none() || price < 1 || price > 9 || core < 0 || core >= cores(state).size()) {
            return NONE;
        }
        plan(price);
        return best[core];
    }

    int ahead(int n, int what) {
        if (none() || n < 0 || n > 40 || what < 0 || what > 5) {
            return HIDDEN;
        }
        State st = state.copy();
        int[] sums = new int[3];
        for (int i = 0; i < n; i++) {
            int[] row = playRound(st);
            for (int k = 0; k < 3; k++) {
                sums[k] += row[k];
            }
        }
        return new int[] {cores(st).size(), sums[0], sums[1], sums[2], energy(cores(st)), slipped(st)}[what];
    }

    int rests() {
        if (none()) {
            return NONE;
        }
        State st = state.copy();
        for (int i = 0; i <= 40; i++) {
            if (playRound(st)[0] == 0) {
                return i;
            }
        }
        return NONE;
    }

    int layer(int y, int what) {
        if (none() || y < 0 || y >= h || what < 0 || what > 3) {
            return HIDDEN;
        }
        if (what < 2) {
            return sum(state, 0, y, "r".repeat(w - 1))[what];
        }
        int n = 0;
        for (int x = 0; x < w; x++) {
            String link = key(x, y, what - 2);
            n += state.links.containsKey(link) && slipped(state, link) ? 1 : 0;
        }
        return n;
    }

    int line(int core, int what) {
        List<Core> all = none() ? new ArrayList<>() : cores(state);
        if (core < 0 || core >= all.size() || what < 0 || what > 3 || all.get(core).way() == NONE) {
            return HIDDEN;
        }
        Core c = all.get(core);
        int sign = what < 2 ? 1 : -1;
        for (int far = 1; far < 9; far++) {
            int x = c.x + (c.way() == 0 ? sign * far : 0);
            int y = c.y + (c.way() == 1 ? sign * far : 0);
            if (isFace(x, y) && numberAt(x, y) != NONE) {
                return what % 2 == 0 ? numberAt(x, y) : far;
            }
        }
        return NONE;
    }

    int stills() {
        if (none()) {
            return NONE;
        }
        int was = hold;
        int answer = NONE;
        for (hold = 99; hold >= 0; hold--) {
            if (playRound(state.copy())[0] == 0) {
                answer = hold;
            }
        }
        hold = was;
        return answer;
    }

    int status(int what) {
        return what < 0 || what > 3 ? NONE : refused[what];
    }

    int most(int what) {
        if (none() || what < 0 || what > 7) {
            return NONE;
        }
        List<Core> all = cores(state);
        int alike = 0;
        int column = NONE;
        for (int x = 0; x <= w - 2; x++) {
            Map<String, Integer> counts = new HashMap<>();
            for (Core c : all) {
                if (c.x == x) {
                    counts.merge(c.dx + " " + c.dy, 1, Integer::sum);
                }
            }
            for (int n : counts.values()) {
                if (n > alike) {
                    alike = n;
                    column = x;
                }
            }
        }
        int forced = NONE;
        int near = NONE;
        int square = 0;
        int number = 0;
        int opposites = 0;
        for (int i = 0; i < all.size(); i++) {
            Core c = all.get(i);
            if (forced == NONE || Math.abs(force(all, i)) > Math.abs(force(all, forced))) {
                forced = i;
            }
            number = Math.max(number, Math.max(Math.abs(c.dx), Math.abs(c.dy)));
            boolean opposite = false;
            for (int j = 0; j < all.size(); j++) {
                Core o = all.get(j);
                opposite |= o.dx == -c.dx && o.dy == -c.dy;
                int q = (c.x - o.x) * (c.x - o.x) + (c.y - o.y) * (c.y - o.y);
                if (j > i && (near == NONE || q < square)) {
                    near = 16 * i + j;
                    square = q;
                }
            }
            opposites += opposite ? 1 : 0;
        }
        int longest = 0;
        for (TreeSet<String> wall : walls()) {
            longest = Math.max(longest, wall.size());
        }
        return new int[] {alike, column, forced, near, square, longest, number, opposites}[what];
    }

    int count(int what) {
        return what == 0 ? tape.length() : what == 1 ? acts.size() : what == 2 ? state.log.size() : NONE;
    }
}
