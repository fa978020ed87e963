import com.sun.management.ThreadMXBean;
import java.lang.management.ManagementFactory;

/** All calls of a run live in one room of 7.3 million fields and elements: a run stays far below that. */
public final class RoomTest {
    private static final long OBJECT_BYTES_MOST = 500_000;
    private static final long RUN_BYTES_MOST = 5_000_000;
    private static final ThreadMXBean BEAN = (ThreadMXBean) ManagementFactory.getThreadMXBean();
    private static final long ME = Thread.currentThread().getId();

    public static void main(String[] args) {
        run(new DeepChannel());
        long start = BEAN.getThreadAllocatedBytes(ME);
        DeepChannel x = new DeepChannel();
        long made = BEAN.getThreadAllocatedBytes(ME);
        run(x);
        long end = BEAN.getThreadAllocatedBytes(ME);
        Check.holds("an object takes " + (made - start) + " bytes, which is few", made - start < OBJECT_BYTES_MOST);
        Check.holds("a run of calls makes " + (end - made) + " bytes, which is few", end - made < RUN_BYTES_MOST);
        Check.end();
    }

    /** Less than 512 calls, most of them the dearest: a full line, spoiled, with words to be put right. */
    private static void run(DeepChannel x) {
        x.form(1, 230, 8, 4);
        for (int n = 0; n < 15; n++) {
            x.data(1, n);
            x.send(n % 8);
            x.turn(260 * n + 100, 0x7FFFFFFL);
        }
        for (int n = 0; n < 200; n++) {
            x.receive(n % 9);
            x.turn(n * 7, 1);
        }
        x.block(0, 3);
        x.word(0, 0);
        x.frame(0, 0);
        x.line(5);
        x.decoded(5);
        x.craft(3);
        x.told(7);
    }
}
