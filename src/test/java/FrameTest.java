import java.util.Arrays;

/** Promise 15: frame. */
public final class FrameTest {
    private static final Class<IndexOutOfBoundsException> INDEX = IndexOutOfBoundsException.class;

    public static void main(String[] args) {
        noSuchBlock();
        windowsOfTheSmallest();
        windowsOfTheGreatest();
        windowsOfEachBlock();
        farOff();
        lostWordsStay();
        notGoodOnesToo();
        asTheTermsLayIt();
        Check.end();
    }

    private static int[] frame(Model m, int salt) {
        int[] values = new int[m.told(1)];
        for (int i = 0; i < values.length; i++) {
            values[i] = 255 - 3 * i - salt & 255;
        }
        return m.frameOf(777 + salt, 5, 6, values);
    }

    /** "IndexOutOfBoundsException: there is no block k", whatever the byte. */
    private static void noSuchBlock() {
        Counted none = new Counted();
        Counted one = new Counted();
        one.sendFrame(0);
        one.receive(0);
        for (int i : new int[] {-8, 0, 38, 39, Integer.MIN_VALUE, Integer.MAX_VALUE}) {
            for (int k : new int[] {-1, 0, 1, Integer.MIN_VALUE, Integer.MAX_VALUE}) {
                Check.refused("frame(" + k + ", " + i + "), nothing received", () -> none.frame(k, i), INDEX);
            }
            for (int k : new int[] {-2, -1, 1, 2, 15, 16, Integer.MIN_VALUE, Integer.MAX_VALUE}) {
                Check.refused("frame(" + k + ", " + i + ") of one block", () -> one.frame(k, i), INDEX);
            }
        }
    }

    /** "Eight bytes of the frame of block k from byte i on, the first one the lowest; 0 for those that it has not." */
    private static void windowsOfTheSmallest() {
        windows(Counted.SMALLEST);
    }

    /** Check bytes behind the frame are none of it. */
    private static void windowsOfTheGreatest() {
        windows(1, 5, 8, 4);
        windows(1, 5, 16, 4);
        windows(8, 224, 8, 4);
        windows(5, 205, 16, 4);
    }

    private static void windows(int... form) {
        Model m = Rows.model(form);
        int[] due = frame(m, 1);
        Counted x = Counted.of(form);
        x.put(Model.MARK + m.bitsOf(m.blockOf(due)));
        x.receive(0);
        for (int i = -9; i <= due.length + 8; i++) {
            Check.same("frame(0, " + i + ") of " + Arrays.toString(form), x.frame(0, i), Rows.eight(due, i));
        }
    }

    /** Of many blocks each has its own: neither the one before nor the one behind shows. */
    private static void windowsOfEachBlock() {
        int[] form = {1, 225, 8, 4};
        Model m = Rows.model(form);
        Counted x = Counted.of(form);
        for (int k = 0; k < 13; k++) {
            x.put(Model.MARK + m.bitsOf(m.blockOf(frame(m, k))));
        }
        Check.same("frame: most blocks", x.receive(0), 13);
        for (int k = 0; k < 13; k++) {
            for (int i = -8; i <= 16; i++) {
                Check.same("frame(" + k + ", " + i + ")", x.frame(k, i), Rows.eight(frame(m, k), i));
            }
        }
    }

    /** "0 for those that it has not": also far off, where an int goes round. */
    private static void farOff() {
        Counted x = Counted.of(Counted.SMALLEST);
        x.data(1, 255);
        x.craft(1023);
        x.send(7);
        x.data(1, 255);
        x.send(7);
        x.receive(0);
        for (int k = 0; k < 2; k++) {
            for (int n = 0; n < 20; n++) {
                Check.same("frame: far behind", x.frame(k, Integer.MAX_VALUE - n), 0);
                Check.same("frame: far below", x.frame(k, Integer.MIN_VALUE + n), 0);
            }
            for (int i : new int[] {9, 10, 16, 25, 250, 4096, -8, -9, -25, -250, 1 << 30, -(1 << 30)}) {
                Check.same("frame(" + k + ", " + i + ")", x.frame(k, i), 0);
            }
        }
    }

    /** "if there is none, the word stays": its bytes as they were decoded, the others put right. */
    private static void lostWordsStay() {
        int[] form = {2, 220, 8, 0};
        Model m = Rows.model(form);
        int[] frame = frame(m, 0);
        int[] right = m.blockOf(frame);
        int[] lost = right.clone();
        Rows.spoil(right, 2, 0, 8, 0);
        Rows.spoil(lost, 2, 0, 9, 0);
        Rows.spoil(lost, 2, 1, 2, 4);
        int[] stays = frame.clone();
        for (int i = 0; i < 9; i++) {
            stays[2 * i] = lost[2 * i];
        }
        Counted x = Counted.of(form);
        x.put(Model.MARK + m.bitsOf(right) + Model.MARK + m.bitsOf(lost));
        x.receive(0);
        for (int i = -8; i <= 38; i++) {
            Check.same("frame(0, " + i + "), put right", x.frame(0, i), Rows.eight(frame, i));
            Check.same("frame(1, " + i + "), a word lost", x.frame(1, i), Rows.eight(stays, i));
        }
    }

    /** A frame that is not good is there all the same, its check too. */
    private static void notGoodOnesToo() {
        Model m = Rows.model(Counted.SMALLEST);
        int[] bad = frame(m, 9);
        bad[8] ^= 1;
        Counted x = Counted.of(Counted.SMALLEST);
        x.put(Model.MARK + m.bitsOf(m.blockOf(bad)));
        x.receive(0);
        Check.same("frame: not good", x.block(0, 4), 0);
        Check.same("frame: not good, its bytes", x.frame(0, 0), Rows.eight(bad, 0));
        Check.same("frame: not good, its check", x.frame(0, 7), bad[7] + 256 * bad[8]);
    }

    /** "4: 24, 5: 0; then the data; then two bytes, the higher one first, the CHECK of all before". */
    private static void asTheTermsLayIt() {
        Counted x = Counted.of(Counted.SMALLEST);
        x.craft(0x2AA);
        x.skips(5, 3);
        x.skips(2, 5);
        x.data(1, 0xC4);
        x.send(5);
        x.receive(0);
        int[] due = {0x2A, 0xAA, 7, 2, 24, 0, 0xC4, 0, 0};
        int check = Model.checkOf(Arrays.copyOf(due, 7));
        due[7] = check >> 8;
        due[8] = check & 255;
        for (int i = 0; i < 9; i++) {
            Check.same("frame: byte " + i, x.frame(0, i) & 255, due[i]);
        }
    }
}
