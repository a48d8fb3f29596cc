import java.lang.management.ManagementFactory;

/**
 * How much is made by an object and by the dearest runs of 512 calls. One room of some 600,000
 * objects and 7.3 million elements holds all calls of a run: so an object stays small, and a call
 * makes nothing.
 */
public final class RoomTest {
    private static final com.sun.management.ThreadMXBean THREADS =
            (com.sun.management.ThreadMXBean) ManagementFactory.getThreadMXBean();
    private static final Check CHECK = new Check();

    private static long made() {
        return THREADS.getThreadAllocatedBytes(Thread.currentThread().getId());
    }

    public static void main(String[] args) {
        run();
        long before = made();
        SaidRecord x = new SaidRecord();
        long ofObject = made() - before;
        CHECK.due("an object makes " + ofObject + " bytes: under 100,000", ofObject < 100_000,
                true);
        before = made();
        long calls = run();
        long ofRun = made() - before;
        CHECK.due("a run of 512 calls makes " + ofRun + " bytes: under 300,000", ofRun < 300_000,
                true);
        CHECK.due("calls", calls, 512);
        CHECK.due("count", x.count(0), 0);
        CHECK.end();
    }

    /** Rules that all must be tried, 180 facts, then found() to the end. */
    private static int run() {
        SaidRecord x = new SaidRecord();
        int calls = 0;
        for (int text = 0; text < 6; text++) {
            for (int rule = 0; rule < 24; rule++) {
                // "bar aa if 1/0<1+1*1;", each name another one.
                int name = 'a' + text << 24 | 'a' + rule << 16 | ' ' << 8 | 'i';
                int sort = rule % 2 == 0 ? 'b' << 24 | 'a' << 16 | 'r' << 8 | ' ' : 'b' << 24
                        | 'a' << 16 | 'r' << 8 | '\t';
                x.feed(sort, name, 'f' << 24 | ' ' << 16 | '1' << 8 | '/', '0' << 24 | '<' << 16
                        | '1' << 8 | '+', '1' << 24 | '*' << 16 | '1' << 8 | ';');
                calls++;
            }
            CHECK.due("read", x.read(), 0);
            calls++;
        }
        for (int i = 0; i < 60; i++) {
            x.line(0, 239 - i, 0, i % 10, 1 + i);
            CHECK.due("mend", x.fact(0, 3 * i, 500, 1), 3 * i + 1);
            x.rename(100 + i, 101 + i, 0);
            calls += 3;
        }
        while (calls < 512) {
            int word = 1 + calls % 50;
            CHECK.due("found() up to the 512th call", x.found(word, 99, 180, 0), 3 * (word - 1));
            calls++;
        }
        return calls;
    }
}
