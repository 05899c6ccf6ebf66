import java.lang.management.ManagementFactory;
import java.util.NoSuchElementException;

/**
 * All calls of one run live in one room of some 600,000 objects and 7.3 million fields and elements. An object takes at
 * least 16 bytes and a field or an element at least one, so what a run takes in bytes bounds both.
 */
public final class RoomTest {
    private static final int CALLS = 500;
    private static final long MOST_BYTES = 100_000;
    /** What the machine keeps of each exception thrown, the calls that stand open, is its own. */
    private static final long MOST_BYTES_OF_THROWS = 2_000_000;
    private static final int KINDS = 12;
    private static final int THROWS = 10;
    private static final String[] CRYSTALS = {"size 9 9",
        "size 9 9;core 0 0 1 0;core 7 7 -1 0;core 7 0 0 1;core 0 7 0 -1;hold 0",
        "size 9 9;core 0 0 1 1;core 2 0 -1 -1;core 4 0 1 1;core 6 0 -1 -1;core 0 2 1 1;core 2 2 -1 -1;core 4 2 1 1"
            + ";core 6 2 -1 -1;core 0 4 1 1;core 2 4 -1 -1;hold 0;rule 2"};
    private static final com.sun.management.ThreadMXBean BEAN =
            (com.sun.management.ThreadMXBean) ManagementFactory.getThreadMXBean();
    /** What calls answer is summed up here, so that none of them is left out. */
    private static long answers;

    private RoomTest() {
    }

    public static void main(String[] args) {
        for (int kind = 0; kind < KINDS; kind++) {
            // the first time classes are loaded, which takes room that isn't the program's
            bytesOf(kind);
            long bytes = bytesOf(kind);
            long most = kind == THROWS ? MOST_BYTES_OF_THROWS : MOST_BYTES;
            Check.due(CALLS + " calls of kind " + kind + " take " + bytes + " bytes", bytes <= most, true);
        }
        Check.finish("RoomTest");
    }

    private static long bytesOf(int kind) {
        long most = 0;
        for (String crystal : CRYSTALS) {
            long before = BEAN.getThreadAllocatedBytes(Thread.currentThread().getId());
            SlipLattice x = new SlipLattice();
            long made = BEAN.getThreadAllocatedBytes(Thread.currentThread().getId()) - before;
            Check.retell(x, crystal);
            // the test's own rows for feeding are not counted
            before = BEAN.getThreadAllocatedBytes(Thread.currentThread().getId());
            for (int i = 0; i < CALLS; i++) {
                answers += answer(x, kind, i);
            }
            most = Math.max(most, made + BEAN.getThreadAllocatedBytes(Thread.currentThread().getId()) - before);
        }
        return most;
    }

    private static long answer(SlipLattice x, int kind, int i) {
        switch (kind) {
            case 0: return x.go(40);
            case 1: return x.rid(1 + i % 9);
            case 2: return x.meets(1 + i % 9, i % 10);
            case 3: return x.ahead(40, i % 6);
            case 4: return x.shake(60, i);
            case 5: return i % 2 == 0 ? x.shift(i % 9, i / 9 % 9, 1, 1) : x.wall(i % 3, i % 5);
            case 6: return i % 3 == 0 ? x.image() : i % 3 == 1 ? x.go(3) : x.back();
            case 7: return i % 2 == 0 ? x.move(i % 8, i / 8 % 8, 0, i % 4) : x.undo();
            case 8: return x.rests() + x.stills() + x.most(i % 8);
            case 9: return i % 2 == 0 ? x.feed(-1, -1, -1, -1, -1) : x.fault();
            case THROWS: return thrown(x, i);
            default: return x.rule(i % 14) + x.halved(i % 7 - 1, i % 4) + x.line(i % 10, i % 4) + x.layer(i % 9, i % 4);
        }
    }

    private static int thrown(SlipLattice x, int i) {
        try {
            return x.core(i + 20, 0);
        } catch (NoSuchElementException e) {
            return 1;
        }
    }
}
