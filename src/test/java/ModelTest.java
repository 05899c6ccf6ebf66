import java.util.ArrayList;
import java.util.Collections;
import java.util.List;
import java.util.NoSuchElementException;
import java.util.Random;

/** Random runs of calls, the class held against the model; also arguments far out of bounds. */
public final class ModelTest {
    private static final int RUNS = 260;
    private static final int CALLS = 505;
    private final Random random;
    private final SlipLattice x = new SlipLattice();
    private final Model m = new Model();
    private final StringBuilder calls = new StringBuilder();

    private final boolean opposed;

    private ModelTest(long seed) {
        random = new Random(seed);
        opposed = seed % 4 == 1;
    }

    public static void main(String[] args) {
        int runs = args.length > 0 ? Integer.parseInt(args[0]) : RUNS;
        for (int i = 0; i < runs && Check.wrong == 0; i++) {
            new ModelTest(i).run(i);
        }
        Check.finish("ModelTest");
    }

    private void run(int number) {
        boolean crowded = number % 3 == 0;
        if (number % 7 != 0) {
            tell(crowded);
        }
        for (int i = 0; i < CALLS - 40 && Check.wrong == 0; i++) {
            one(crowded);
        }
        if (Check.wrong != 0) {
            System.out.println("run " + number + ":\n" + calls);
        }
    }

    private void due(String call, long got, long want) {
        calls.append(call).append(" = ").append(got).append('\n');
        Check.due(call, got, want);
    }

    /** Mostly low .. high, now and then around or far out of it. */
    private int pick(int low, int high) {
        int r = random.nextInt(60);
        if (r == 0) {
            int[] far = {Integer.MIN_VALUE, Integer.MAX_VALUE, -1000000, 1 << 30, Integer.MAX_VALUE - 1, 300, -2};
            return far[random.nextInt(far.length)];
        }
        if (r < 4) {
            return random.nextBoolean() ? low - 1 : high + 1;
        }
        return low + random.nextInt(Math.max(1, high - low + 1));
    }

    private void feed(String text) {
        for (int from = 0; from < text.length(); from += 20) {
            int[] words = new int[5];
            for (int i = 0; i < 20 && from + i < text.length(); i++) {
                words[i / 4] |= text.charAt(from + i) << (24 - 8 * (i % 4));
            }
            due("feed(" + words[0] + ", " + words[1] + ", " + words[2] + ", " + words[3] + ", " + words[4] + ")",
                    x.feed(words[0], words[1], words[2], words[3], words[4]),
                    m.feed(words[0], words[1], words[2], words[3], words[4]));
        }
    }

    private String blank() {
        return random.nextInt(12) == 0 ? " ".repeat(random.nextInt(3)) : "";
    }

    /** A text mostly without a fault: each face and each setting is told once, but for some slips. */
    private String text(boolean crowded) {
        int least = crowded ? 5 : 2;
        int w = least + random.nextInt(10 - least);
        int h = least + random.nextInt(10 - least);
        List<String> pieces = new ArrayList<>();
        boolean slips = random.nextInt(5) == 0;
        for (String setting : settings()) {
            if (random.nextBoolean()) {
                pieces.add(setting);
            }
        }
        if (slips && random.nextInt(3) == 0) {
            pieces.add(settings().get(random.nextInt(3)));
        }
        int cores = crowded ? 9 + random.nextInt(slips ? 3 : 2) : random.nextInt(8);
        List<Integer> faces = new ArrayList<>();
        for (int i = 0; i < (w - 1) * (h - 1); i++) {
            faces.add(i);
        }
        Collections.shuffle(faces, random);
        for (int i = 0; i < cores && i < faces.size(); i++) {
            int face = slips && random.nextInt(20) == 0 ? faces.get(0) : faces.get(i);
            pieces.add("core " + face % (w - 1) + " " + face / (w - 1) + " " + vector(slips));
        }
        Collections.shuffle(pieces, random);
        StringBuilder text = new StringBuilder(blank() + "size " + w + " " + h);
        for (String piece : pieces) {
            text.append(blank()).append(';').append(blank()).append(piece).append(blank());
        }
        if (slips) {
            String any = " ;-0123459corehldsizu\u00e9\t";
            text.setCharAt(random.nextInt(text.length()), any.charAt(random.nextInt(any.length())));
        }
        return text.toString();
    }

    private List<String> settings() {
        int hold = random.nextInt(3) == 0 ? random.nextInt(100) : random.nextInt(9);
        return List.of("hold " + hold, "stress " + (random.nextInt(41) - 20) + " " + (random.nextInt(41) - 20),
                "rule " + random.nextInt(3));
    }

    private String vector(boolean slips) {
        if (opposed) {
            return random.nextInt(3) == 0 ? "-1 0" : random.nextBoolean() ? "1 0" : random.nextBoolean() ? "0 1" : "0 -1";
        }
        int most = random.nextInt(3) == 0 ? 2 : 1;
        int dx = random.nextInt(2 * most + 1) - most;
        int dy = random.nextInt(2 * most + 1) - most;
        if (random.nextInt(3) == 0) {
            dx = random.nextBoolean() ? dx : 0;
            dy = dx == 0 ? dy : 0;
        }
        if (dx == 0 && dy == 0 && !slips) {
            return random.nextBoolean() ? "1 0" : "0 -1";
        }
        return dx + " " + dy;
    }

    private void end(int n) {
        due("end(" + n + ")", x.end(n) ? 1 : 0, m.end(n) ? 1 : 0);
    }

    /** Tells texts until one has no fault, some ten times at most. */
    private void tell(boolean crowded) {
        for (int i = 0; i < 10; i++) {
            end(0);
            String text = text(crowded);
            feed(text);
            calls.append("// ").append(text).append('\n');
            due("fault()", x.fault(), m.fault());
            int cores = m.text();
            due("text()", x.text(), cores);
            if (cores != Model.NONE) {
                return;
            }
        }
    }

    private void one(boolean crowded) {
        int kind = random.nextInt(34);
        if (kind < 9) {
            act(crowded);
        } else if (kind < 20) {
            look();
        } else {
            ask();
        }
    }

    private void act(boolean crowded) {
        int kind = random.nextInt(crowded ? 30 : 12);
        boolean bare = !m.none() && m.cores(m.state).isEmpty();
        if (kind == 0 && random.nextInt(bare ? 1 : 4) == 0) {
            tell(crowded);
        } else if (kind == 1) {
            int n = random.nextInt(5) == 0 ? pick(1, 40) : pick(1, 3);
            due("go(" + n + ")", x.go(n), m.go(n));
        } else if (kind == 2) {
            int n = pick(1, random.nextBoolean() ? 3 : 60);
            long seed = random.nextLong();
            due("shake(" + n + ", " + seed + ")", x.shake(n, seed), m.shake(n, seed));
        } else if (kind == 3) {
            int a = pick(0, m.w - 1);
            int b = pick(0, m.h - 1);
            int c = pick(-9, 9);
            int d = random.nextInt(4) == 0 ? 0 : pick(-9, 9);
            due("shift(" + a + ", " + b + ", " + c + ", " + d + ")", x.shift(a, b, c, d), m.shift(a, b, c, d));
        } else if (kind == 4) {
            int a = pick(0, 3);
            int v = a == 2 ? pick(0, 99) : a == 3 ? pick(0, 2) : pick(-20, 20);
            due("set(" + a + ", " + v + ")", x.set(a, v), m.set(a, v));
        } else if (kind == 5) {
            for (int i = random.nextInt(4) == 0 ? 22 : 1; i > 0; i--) {
                due("undo()", x.undo(), m.undo());
            }
        } else if (kind == 6) {
            if (random.nextBoolean()) {
                due("image()", x.image(), m.image());
            } else {
                due("back()", x.back(), m.back());
            }
        } else if (kind == 7) {
            walk();
        } else {
            moveByHand();
        }
    }

    private void moveByHand() {
        int a = pick(0, m.w - 2);
        int b = pick(0, m.h - 2);
        if (!m.none() && random.nextInt(5) > 0 && m.cores(m.state).size() > 0) {
            Model.Core c = m.cores(m.state).get(random.nextInt(m.cores(m.state).size()));
            a = c.x;
            b = c.y;
        }
        int part = random.nextInt(3) == 0 ? 0 : pick(0, 2);
        int direction = pick(0, 3);
        due("move(" + a + ", " + b + ", " + part + ", " + direction + ")",
                x.move(a, b, part, direction), m.move(a, b, part, direction));
    }

    private void walk() {
        StringBuilder letters = new StringBuilder();
        int n = random.nextInt(8) == 0 ? 115 + random.nextInt(10) : random.nextInt(12);
        int a = pick(0, m.w - 1);
        int b = pick(0, m.h - 1);
        int atX = a;
        int atY = b;
        for (int i = 0; i < n; i++) {
            int d = random.nextInt(4);
            for (int tries = 0; tries < 4; tries++) {
                int nx = atX + (d == 0 ? 1 : d == 2 ? -1 : 0);
                int ny = atY + (d == 1 ? 1 : d == 3 ? -1 : 0);
                if (m.isSite(nx, ny) || random.nextInt(80) == 0) {
                    atX = nx;
                    atY = ny;
                    break;
                }
                d = (d + 1) % 4;
            }
            letters.append(random.nextInt(200) == 0 ? 'x' : "ruld".charAt(d));
        }
        if (random.nextInt(5) > 0) {
            end(0);
        }
        feed(letters.toString());
        due("path(" + a + ", " + b + ")", x.path(a, b), m.path(a, b));
        for (int i = -1; i < 6; i++) {
            due("gone(" + i + ")", x.gone(i), m.gone(i));
        }
    }

    private void look() {
        int a = pick(0, m.w - 1);
        int b = pick(0, m.h - 1);
        switch (random.nextInt(7)) {
            case 0:
                int rule = pick(0, 13);
                due("rule(" + rule + ")", x.rule(rule), m.rule(rule));
                break;
            case 1:
                int i = pick(0, 5);
                for (int what = -1; what < 7; what++) {
                    due("core(" + i + ", " + what + ")", coreOf(i, what), modelCoreOf(i, what));
                }
                break;
            case 2:
                int what = pick(0, 2);
                due("face(" + a + ", " + b + ", " + what + ")", x.face(a, b, what), m.face(a, b, what));
                break;
            case 3:
                boolean up = random.nextBoolean();
                int part = pick(0, 1);
                due("link(" + a + ", " + b + ", " + up + ", " + part + ")",
                        x.link(a, b, up, part), m.link(a, b, up, part));
                break;
            case 4:
                int c = pick(0, m.w - 1);
                int d = pick(0, m.h - 1);
                int side = pick(0, 3);
                due("box(" + Math.min(a, c) + ", " + Math.min(b, d) + ", " + c + ", " + d + ", " + side + ")",
                        x.box(Math.min(a, c), Math.min(b, d), c, d, side),
                        m.box(Math.min(a, c), Math.min(b, d), c, d, side));
                break;
            case 5:
                int k = pick(-1, 6);
                int w = pick(0, 3);
                due("halved(" + k + ", " + w + ")", x.halved(k, w), m.halved(k, w));
                break;
            default:
                int l = pick(0, 3);
                due("layer(" + b + ", " + l + ")", x.layer(b, l), m.layer(b, l));
                break;
        }
    }

    private void ask() {
        int what;
        switch (random.nextInt(11)) {
            case 0:
                int i = pick(0, random.nextBoolean() ? 3 : 39);
                what = pick(0, 3);
                due("log(" + i + ", " + what + ")", x.log(i, what), m.log(i, what));
                break;
            case 1:
                int k = pick(0, 3);
                what = pick(0, 4);
                due("wall(" + k + ", " + what + ")", x.wall(k, what), m.wall(k, what));
                break;
            case 2:
                int price = pick(1, 9);
                due("rid(" + price + ")", x.rid(price), m.rid(price));
                break;
            case 3:
                int p = pick(1, 9);
                int core = pick(0, 7);
                due("meets(" + p + ", " + core + ")", x.meets(p, core), m.meets(p, core));
                break;
            case 4:
                int n = pick(0, random.nextBoolean() ? 3 : 40);
                what = pick(0, 5);
                due("ahead(" + n + ", " + what + ")", x.ahead(n, what), m.ahead(n, what));
                break;
            case 5:
                due("rests()", x.rests(), m.rests());
                break;
            case 6:
                int c = pick(0, 5);
                what = pick(0, 3);
                due("line(" + c + ", " + what + ")", x.line(c, what), m.line(c, what));
                break;
            case 7:
                due("stills()", x.stills(), m.stills());
                break;
            case 8:
                what = pick(0, 3);
                due("status(" + what + ")", x.status(what), m.status(what));
                break;
            case 9:
                what = pick(0, 7);
                due("most(" + what + ")", x.most(what), m.most(what));
                break;
            default:
                what = pick(0, 2);
                due("count(" + what + ")", x.count(what), m.count(what));
                break;
        }
    }

    private long coreOf(int i, int what) {
        try {
            return x.core(i, what);
        } catch (NoSuchElementException e) {
            return Long.MIN_VALUE;
        }
    }

    private long modelCoreOf(int i, int what) {
        try {
            return m.core(i, what);
        } catch (NoSuchElementException e) {
            return Long.MIN_VALUE;
        }
    }
}
