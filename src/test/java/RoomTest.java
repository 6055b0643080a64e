import com.sun.management.ThreadMXBean;
import java.lang.management.ManagementFactory;

/** What the dearest run of 512 calls makes: all calls of a run live in one room. */
public final class RoomTest {
    /** Of the room's 7.3 million fields and elements, at four bytes each, a small part. */
    private static final long MOST_BYTES = 1000000;

    public static void main(String[] args) {
        ThreadMXBean thread = (ThreadMXBean) ManagementFactory.getThreadMXBean();
        play();
        long before = thread.getCurrentThreadAllocatedBytes();
        long answers = play();
        long made = thread.getCurrentThreadAllocatedBytes() - before;
        System.out.println("512 calls make " + made + " bytes (the answers' sum is " + answers + ")");
        if (made > MOST_BYTES) {
            System.out.println("due are at most " + MOST_BYTES);
            System.exit(1);
        }
    }

    /** 40 PATHS in a dense graph, then runs of 2000 ROWS in graphs that change from call to call. */
    private static long play() {
        PathSteps x = Given.about2000();
        for (int n = 0; n < 30; n++) {
            x.triple(1, 15, n);
        }
        x.path(0, 15, 0);
        x.path(4, 12, 0);
        for (int n = 13; n < 40; n++) {
            x.path(2, n, n);
        }
        long sum = 0;
        for (int call = 82; call <= 512; call += 4) {
            sum += x.run(10, 0, call % 8 == 2 ? 0 : -1) + x.at(1999, 0) + x.depth(1999);
            sum += x.plain(40, 30 + call / 4 % 2, -1);
        }
        return sum;
    }
}
