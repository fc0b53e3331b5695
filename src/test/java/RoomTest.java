import com.sun.management.ThreadMXBean;
import java.lang.management.ManagementFactory;

/** All calls of a run live in one room: what one object and its 512 calls make stays far below it. */
public final class RoomTest {
    private static final int CALLS = 512;
    /** A hundredth of the room's 7.3 million fields and elements: each takes a byte or more. */
    private static final long MOST_BYTES = 73_000;

    /** A row of calls on one object; answers something of them, so that none is left out. */
    interface Row {
        int run(NameMerges x);
    }

    public static void main(String[] args) {
        measure("names, variants and searches", RoomTest::searches);
        measure("likeness of all pairs", RoomTest::looks);
        measure("dates told again and again", RoomTest::dates);
        measure("merges and partings", RoomTest::merges);
        measure("broader names and numbers outside", RoomTest::others);
        Checks.end();
    }

    private static void measure(String what, Row row) {
        row.run(new NameMerges()); // what the machine makes once, when it loads classes, does not count
        ThreadMXBean thread = (ThreadMXBean) ManagementFactory.getThreadMXBean();
        long before = thread.getCurrentThreadAllocatedBytes();
        int calls = row.run(new NameMerges());
        long made = thread.getCurrentThreadAllocatedBytes() - before;
        Checks.same(what + ": calls", calls, CALLS);
        Checks.yes(what + ": " + made + " bytes are at most " + MOST_BYTES, made <= MOST_BYTES);
    }

    /** Every name with four variants of one sign each: 24 + 96 * 2 calls. */
    private static int fill(NameMerges x) {
        for (int n = 0; n < 24; n++) {
            x.name();
            for (int v = 0; v < 4; v++) {
                x.unit(97 + n);
                x.variant(n, v, 0, 100000);
            }
        }
        return 24 + 96 * 2;
    }

    private static int searches(NameMerges x) {
        int calls = fill(x);
        x.unit(97);
        calls++;
        while (calls < CALLS) {
            x.find(calls);
            calls++;
        }
        return calls;
    }

    private static int looks(NameMerges x) {
        int calls = fill(x);
        while (calls < CALLS) {
            if (calls % 2 == 0) {
                x.candidates(0);
            } else {
                x.lost(100);
            }
            calls++;
        }
        return calls;
    }

    private static int dates(NameMerges x) {
        x.name();
        int calls = 1;
        while (calls < CALLS) {
            x.dates(0, calls, 100000);
            calls++;
        }
        return calls;
    }

    private static int merges(NameMerges x) {
        for (int n = 0; n < 24; n++) {
            x.name();
        }
        int calls = 24;
        for (int m = 0; m < 58; m++) {
            x.merge(m % 23, m % 23 + 1, m * 10);
            x.part(m % 23, m % 23 + 1, m * 10 + 5);
            calls += 2;
        }
        // one of these is the 59th merge and the others answer 2: a refused call would cost less
        while (calls < CALLS) {
            x.merge(0, 1, calls % 2 == 0 ? 0 : 100000);
            calls++;
        }
        return calls;
    }

    private static int others(NameMerges x) {
        for (int n = 0; n < 24; n++) {
            x.name();
        }
        int calls = 24;
        while (calls < CALLS) {
            int n = calls % 23;
            if (calls % 2 == 0) {
                x.broader(n, n + 1);
            } else {
                x.outside(n, calls % 4, calls);
            }
            calls++;
        }
        return calls;
    }
}
