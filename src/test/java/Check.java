import java.nio.charset.StandardCharsets;

/** What the project's tests share: rows of due answers, and texts that are fed as bytes. */
final class Check {
    static int rows = 0;
    static int wrong = 0;

    private Check() {
    }

    static void due(String call, long got, long want) {
        rows++;
        if (got != want) {
            wrong++;
            System.out.println(call + " answered " + got + ", due is " + want);
        }
    }

    static void due(String call, boolean got, boolean want) {
        due(call, got ? 1 : 0, want ? 1 : 0);
    }

    /** Feeds a text behind what stands on the tape; answers what the last feed answered. */
    static int feed(SlipLattice x, String text) {
        byte[] bytes = text.getBytes(StandardCharsets.ISO_8859_1);
        int answer = x.count(0);
        for (int from = 0; from < bytes.length; from += 20) {
            int[] words = new int[5];
            for (int i = 0; i < 20 && from + i < bytes.length; i++) {
                words[i / 4] |= (bytes[from + i] & 255) << (24 - 8 * (i % 4));
            }
            answer = x.feed(words[0], words[1], words[2], words[3], words[4]);
        }
        return answer;
    }

    /** A new object with this crystal. */
    static SlipLattice of(String text) {
        SlipLattice x = new SlipLattice();
        if (!retell(x, text)) {
            throw new IllegalStateException("a test's text has a fault at " + x.fault() + ": " + text);
        }
        return x;
    }

    static boolean retell(SlipLattice x, String text) {
        x.end(0);
        feed(x, text);
        return x.text() != SlipLattice.NONE;
    }

    static int walk(SlipLattice x, int atX, int atY, String letters) {
        x.end(0);
        feed(x, letters);
        return x.path(atX, atY);
    }

    static void finish(String name) {
        System.out.println(name + ": " + rows + " answers, " + wrong + " wrong");
        if (wrong != 0 || rows == 0) {
            System.exit(1);
        }
    }
}
