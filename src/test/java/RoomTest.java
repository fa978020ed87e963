import com.sun.management.ThreadMXBean;
import java.lang.management.ManagementFactory;

/**
 * All calls of a run live in one room of 7.3 million fields and elements. What is counted here are
 * bytes, four to each of these; the run has as many of the dearest call as an object is made for.
 */
public final class RoomTest {
    private static final long ROOM_BYTES = 4 * 7_300_000L;
    private static final int FRAMES = 15;
    private static final int CALLS_BESIDE_RECEIVE = 1 + 3 * FRAMES + 7;
    private static final ThreadMXBean BEAN = (ThreadMXBean) ManagementFactory.getThreadMXBean();
    private static final long ME = Thread.currentThread().getId();

    public static void main(String[] args) {
        run(new DeepChannel());
        long start = BEAN.getThreadAllocatedBytes(ME);
        run(new DeepChannel());
        long made = BEAN.getThreadAllocatedBytes(ME) - start;
        Check.holds("a run of 512 calls makes " + made + " bytes, for which there is room", made < ROOM_BYTES);
        Check.end();
    }

    /** A full line, spoiled, with words to be put right, received again and again. */
    private static void run(DeepChannel x) {
        x.form(1, 230, 8, 4);
        for (int n = 0; n < FRAMES; n++) {
            x.data(1, n);
            x.send(n % 8);
            x.turn(260 * n + 100, 0x7FFFFFFL);
        }
        for (int n = CALLS_BESIDE_RECEIVE; n < Counted.CALLS_MOST; n++) {
            x.receive(n % 9);
        }
        x.block(0, 3);
        x.word(0, 0);
        x.frame(0, 0);
        x.line(5);
        x.decoded(5);
        x.craft(3);
        x.told(7);
    }
}
