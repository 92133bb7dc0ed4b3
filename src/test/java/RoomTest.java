import com.sun.management.ThreadMXBean;
import java.lang.management.ManagementFactory;

/** The dearest runs of 512 calls stay far within the room of one run: some 600,000 objects, 7.3 million elements. */
public final class RoomTest {
    private static final long BYTES = 4_000_000;
    private static final String FULL = "lift 6;row 0 0 0 0 0 0 0 0;row 0 1 2 3 4 5 0 1;row 0 2 4 0 2 4 0 2;row 1 2 3 4 5 0 1 2;";

    private RoomTest() {
    }

    public static void main(String[] args) {
        for (int kind = 0; kind < 6; kind++) {
            long made = made(kind);
            Due.is("run " + kind + " made " + made + " bytes: within the room", made < BYTES, true);
        }
        Due.end();
    }

    private static long made(int kind) {
        ThreadMXBean threads = (ThreadMXBean) ManagementFactory.getThreadMXBean();
        long id = Thread.currentThread().getId();
        LiftedChecks x = Tape.coded(FULL);
        long ahead = threads.getThreadAllocatedBytes(id);
        for (int n = 0; n < 512; n++) {
            call(x, kind, n);
        }
        return threads.getThreadAllocatedBytes(id) - ahead;
    }

    private static void call(LiftedChecks x, int kind, int n) {
        switch (kind) {
            case 0: x.raise(n % 8, 1); break;
            case 1: if (n % 2 == 0) { x.slide(n % 4, 1); } else { x.least(4, n); } break;
            case 2: if (n % 4 == 3) { x.image(); } else { x.hear(n % 48, n % 31); } break;
            case 3: if (n % 2 == 0) { x.send(9, 30); } else { x.trials(9, 30, 20, 2); } break;
            case 4: x.feed(n, n, n, n, n); x.text(); break;
            default: x.weakest(n % 32); break;
        }
    }
}
