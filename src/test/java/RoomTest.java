import com.sun.management.ThreadMXBean;
import java.lang.management.ManagementFactory;

/** What the dearest runs of 512 calls make: far less than the room of all calls of one run. */
public final class RoomTest {
    private static final int CALLS = 512;
    // The room has 600,000 objects; a run that stays below this many bytes cannot make them.
    private static final long MOST_BYTES = 2_000_000;

    public static void main(String[] args) {
        Verdict verdict = new Verdict();
        for (int round = 0; round < 2; round++) {
            verdict.due("room of completions is small", bytesOfCompletions() < MOST_BYTES, true);
            verdict.due("room of declarations is small", bytesOfDeclarations() < MOST_BYTES, true);
        }
        verdict.end();
    }

    private static long allocated() {
        ThreadMXBean threads = (ThreadMXBean) ManagementFactory.getThreadMXBean();
        return threads.getThreadAllocatedBytes(Thread.currentThread().getId());
    }

    private static long bytesOfCompletions() {
        long before = allocated();
        Desk x = new Desk();
        for (char c = 'A'; c <= 'J'; c++) {
            String above = c == 'A' ? "" : ":" + (char) (c - 1);
            String text = c + above + "{";
            for (char m = 'a'; m <= 'f'; m++) {
                text += (m == 'a' ? "" : ";") + m + Character.toLowerCase(c) + "(A,A):J";
            }
            x.declare(text + "}");
        }
        for (int i = 0; i < 5; i++) {
            x.variable((char) ('v' + i) + ":J");
        }
        for (int i = 0; i < CALLS; i++) {
            x.desk.complete(3, 3);
        }
        return allocated() - before;
    }

    private static long bytesOfDeclarations() {
        long before = allocated();
        Desk x = new Desk();
        for (int i = 0; i < CALLS; i++) {
            x.declare("A{a(A,A):A;b(A,A):A;c(A,A):A;d(A,A):A;e(A,A):A;new(A,A)}");
        }
        return allocated() - before;
    }
}
