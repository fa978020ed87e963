import java.util.function.Supplier;
import java.util.function.ToLongFunction;

/**
 * The last sentence of the terms: "Methods throw what their comments name, the one named first when
 * several would do; a call that throws, or answers NONE, changes nothing." Each refused call, in
 * states from nothing there yet to no room left, is held against an object that was not asked:
 * all that can be seen is the same, and all that comes then.
 */
public final class RefusedTest {
    private static final String ARGUMENT = "throws.IllegalArgumentException";
    private static final String STATE = "throws.IllegalStateException";
    private static final String INDEX = "throws.IndexOutOfBoundsException";
    private static final String NONE = "-1";

    public static void main(String[] args) {
        everywhere("new", Counted::new);
        everywhere("busy", RefusedTest::busy);
        everywhere("data complete", RefusedTest::withAllData);
        everywhere("no room for a frame", RefusedTest::withoutRoomForAFrame);
        everywhere("full", RefusedTest::full);
        everywhere("full, no data", RefusedTest::fullWithoutData);
        everywhere("nothing found", RefusedTest::withNothingFound);
        tooFewData();
        noRoomForData();
        noRoomForAFrame();
        noRoomForBits();
        noBlock();
        noneOfABlock();
        firstNamed();
        Check.end();
    }

    // ---- states

    /** Everything is other than at first: some data wait, two frames were received, then bits were turned. */
    private static Counted busy() {
        Counted x = Counted.of(1, 225, 8, 4);
        x.craft(700);
        x.plain(3, 5);
        x.skips(4, 2);
        x.sendFrame(2);
        x.skip(5);
        x.sendFrame(5);
        x.turn(100, 0xFFFFF);
        x.receive(3);
        x.turn(5, 0xF0F);
        x.plain(10, 333);
        x.data(3, 0x332211);
        return x;
    }

    private static Counted withAllData() {
        Counted x = busy();
        x.data(3, 0x665544);
        return x;
    }

    private static Counted withoutRoomForAFrame() {
        Counted x = Counted.of(1, 225, 8, 4);
        x.craft(9);
        x.sendFrame(1);
        x.receive(0);
        x.put(Rows.noise(3584 - 272 - 271, 8));
        x.fillData(7);
        return x;
    }

    private static Counted full() {
        Counted x = withoutRoomForAFrame();
        x.put(Rows.noise(271, 9));
        return x;
    }

    private static Counted fullWithoutData() {
        Counted x = Counted.of(1, 200, 8, 0);
        x.put(Rows.noise(2048, 10));
        x.data(5, 1);
        return x;
    }

    private static Counted withNothingFound() {
        Counted x = Counted.of(2, 220, 8, 2);
        x.plain(64, 0x123456789L);
        x.turn(10, 0xFFF);
        x.receive(0);
        return x;
    }

    // ---- what is asked in each of them

    private static void refused(String name, Supplier<Counted> state, ToLongFunction<Counted> call, String due) {
        Counted asked = state.get();
        Check.same(name, Check.outcome(() -> call.applyAsLong(asked)), due);
        Check.same(name + ": all stays", asked.seen(), state.get().seen());
        Counted again = state.get();
        Check.outcome(() -> call.applyAsLong(again));
        Check.outcome(() -> call.applyAsLong(again));
        Check.same(name + ": all comes the same", again.comes(), state.get().comes());
    }

    /** Arguments that are wrong in every state: the first one behind either end, and one far off. */
    private static void everywhere(String title, Supplier<Counted> state) {
        int[][] forms = {{0, 200, 8, 0}, {6, 230, 8, 0}, {9, 230, 8, 0}, {1, 4, 8, 0}, {1, 231, 8, 0}, {1, -1, 8, 0},
            {1, 251, 8, 0}, {1, 200, 7, 0}, {1, 200, 17, 0}, {1, 200, 8, -1}, {1, 200, 8, 5}, {8, 222, 16, 0}};
        for (int[] f : forms) {
            String name = title + ", form(" + f[0] + ", " + f[1] + ", " + f[2] + ", " + f[3] + ")";
            refused(name, state, x -> x.form(f[0], f[1], f[2], f[3]), ARGUMENT);
        }
        for (int wrong : new int[] {-1, 1024, Integer.MIN_VALUE}) {
            refused(title + ", craft(" + wrong + ")", state, x -> x.craft(wrong), ARGUMENT);
        }
        for (int wrong : new int[] {-1, 8, Integer.MAX_VALUE}) {
            refused(title + ", told(" + wrong + ")", state, x -> x.told(wrong), ARGUMENT);
            refused(title + ", send(" + wrong + ")", state, x -> x.send(wrong), ARGUMENT);
            refused(title + ", skip(" + wrong + ")", state, x -> x.skip(wrong), ARGUMENT);
        }
        for (int wrong : new int[] {0, 9, -1, Integer.MIN_VALUE}) {
            refused(title + ", data(" + wrong + ")", state, x -> x.data(wrong, -1), ARGUMENT);
        }
        for (int wrong : new int[] {0, 65, -1, Integer.MIN_VALUE}) {
            refused(title + ", plain(" + wrong + ")", state, x -> x.plain(wrong, -1), ARGUMENT);
        }
        for (int wrong : new int[] {-1, 9, Integer.MAX_VALUE}) {
            refused(title + ", receive(" + wrong + ")", state, x -> x.receive(wrong), ARGUMENT);
            refused(title + ", block(0, " + wrong + ")", state, x -> x.block(0, wrong), ARGUMENT);
        }
        for (int wrong : new int[] {-1, 2, 15, 16, Integer.MIN_VALUE, Integer.MAX_VALUE}) {
            refused(title + ", block(" + wrong + ", 0)", state, x -> x.block(wrong, 0), INDEX);
            refused(title + ", word(" + wrong + ", 0)", state, x -> x.word(wrong, 0), INDEX);
            refused(title + ", frame(" + wrong + ", 0)", state, x -> x.frame(wrong, 0), INDEX);
        }
    }

    /** "IllegalStateException: there are not as many data as a frame has." */
    private static void tooFewData() {
        for (int channel = 0; channel < 8; channel += 7) {
            int known = channel;
            refused("send, no data", Counted::new, x -> x.send(known), STATE);
            refused("send, some data", RefusedTest::busy, x -> x.send(known), STATE);
            refused("send, some data, full", RefusedTest::fullWithoutData, x -> x.send(known), STATE);
            refused("send, no data, nothing found", RefusedTest::withNothingFound, x -> x.send(known), STATE);
        }
    }

    /** "NONE when there would be more than a frame has." */
    private static void noRoomForData() {
        for (int n = 4; n <= 8; n++) {
            int known = n;
            refused("data(" + n + "), room for three", RefusedTest::busy, x -> x.data(known, -1), NONE);
        }
        for (int n = 1; n <= 8; n++) {
            int known = n;
            refused("data(" + n + "), no room", RefusedTest::withAllData, x -> x.data(known, -1), NONE);
            refused("data(" + n + "), no room, full", RefusedTest::full, x -> x.data(known, -1), NONE);
        }
    }

    /** "NONE when there would be more than 4096.", of a frame. */
    private static void noRoomForAFrame() {
        for (int channel = 0; channel < 8; channel++) {
            int known = channel;
            refused("send, a bit too many", RefusedTest::withoutRoomForAFrame, x -> x.send(known), NONE);
            refused("send, full", RefusedTest::full, x -> x.send(known), NONE);
        }
    }

    /** "NONE when there would be more than 4096.", of plain bits. */
    private static void noRoomForBits() {
        for (int n : new int[] {1, 2, 63, 64}) {
            refused("plain(" + n + "), full", RefusedTest::full, x -> x.plain(n, -1), NONE);
        }
        for (int room : new int[] {1, 3, 20, 63}) {
            Supplier<Counted> state = () -> {
                Counted x = withoutRoomForAFrame();
                x.put(Rows.noise(271 - room, 9));
                return x;
            };
            refused("plain(64), room for " + room, state, x -> x.plain(64, -1), NONE);
            refused("plain, a bit too many for " + room, state, x -> x.plain(room + 1, -1), NONE);
        }
    }

    /** "IndexOutOfBoundsException: there is no block k." */
    private static void noBlock() {
        for (int what = 0; what <= 8; what++) {
            int known = what;
            refused("block(0, " + what + "), new", Counted::new, x -> x.block(0, known), INDEX);
            refused("block(0, " + what + "), none found", RefusedTest::withNothingFound, x -> x.block(0, known), INDEX);
            refused("block(2, " + what + "), of two", RefusedTest::busy, x -> x.block(2, known), INDEX);
        }
        refused("word(0, 0), none found", RefusedTest::withNothingFound, x -> x.word(0, 0), INDEX);
        refused("frame(0, 0), none found", RefusedTest::withNothingFound, x -> x.frame(0, 0), INDEX);
    }

    /** block() and word() answer NONE, too. */
    private static void noneOfABlock() {
        Supplier<Counted> state = () -> {
            Counted x = Counted.of(1, 225, 8, 4);
            x.sendFrame(2);
            x.turn(60, -1);
            x.turn(124, -1);
            x.turn(188, -1);
            x.receive(0);
            return x;
        };
        Check.same("a lost one", state.get().block(0, 2), 1);
        for (int what = 5; what <= 8; what++) {
            int known = what;
            refused("block(0, " + what + "), lost", state, x -> x.block(0, known), NONE);
        }
        for (int j : new int[] {-1, 0, 1, 8}) {
            refused("word(0, " + j + "), lost", state, x -> x.word(0, j), NONE);
        }
    }

    /** "the one named first when several would do". */
    private static void firstNamed() {
        for (int wrong : new int[] {-1, 8}) {
            refused("send(" + wrong + "), no data", Counted::new, x -> x.send(wrong), ARGUMENT);
            refused("send(" + wrong + "), some data", RefusedTest::busy, x -> x.send(wrong), ARGUMENT);
            refused("send(" + wrong + "), some data, full", RefusedTest::fullWithoutData, x -> x.send(wrong), ARGUMENT);
            refused("send(" + wrong + "), full", RefusedTest::full, x -> x.send(wrong), ARGUMENT);
        }
        for (int what : new int[] {-1, 9}) {
            for (int k : new int[] {-1, 0, 2, 15, 16}) {
                String name = "block(" + k + ", " + what + ")";
                refused(name + ", new", Counted::new, x -> x.block(k, what), ARGUMENT);
                refused(name + ", busy", RefusedTest::busy, x -> x.block(k, what), ARGUMENT);
            }
        }
        refused("send, neither data nor room", RefusedTest::fullWithoutData, x -> x.send(0), STATE);
        refused("data(9), no room", RefusedTest::full, x -> x.data(9, 0), ARGUMENT);
        refused("plain(65), no room", RefusedTest::full, x -> x.plain(65, 0), ARGUMENT);
        refused("word(1, -1) of no block", Counted::new, x -> x.word(1, -1), INDEX);
    }
}
