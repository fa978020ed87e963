/** Promise 1: a new object, in which nothing is there yet. */
public final class NewObjectTest {
    public static void main(String[] args) {
        hasTheFirstForm();
        hasCraftZero();
        hasNoData();
        hasAnEmptyLine();
        hasCountsZero();
        hasReceivedNothing();
        hasARegisterOfZero();
        objectsAreApart();
        Check.end();
    }

    /** "The form 1, 200, 8, 0": an object that is given this form is as a new one in all it does. */
    private static void hasTheFirstForm() {
        int[] due = {39, 31, 55};
        for (int what = 0; what <= 2; what++) {
            Check.same("new: told(" + what + ")", new Counted().told(what), due[what]);
        }
        Check.same("new: pattern 0 keeps all bits", new Counted().plain(64, 0), 128);
        Check.same("new: bits of a frame", new Counted().sendFrame(0), 2 * (32 + 8 * 55));
        Check.same("new: E is 8", wordWith(8), 8);
        Check.same("new: E is no more", wordWith(9), Counted.NONE);
        Check.same("new: as with the form 1, 200, 8, 0", new Counted().comes(), Counted.of(1, 200, 8, 0).comes());
    }

    private static int wordWith(int wrong) {
        Model m = new Model();
        int[] block = m.blockOf(m.frameOf(0, 0, 0, new int[31]));
        Rows.spoil(block, 1, 0, wrong, 11);
        Counted x = new Counted();
        x.put(Model.MARK + m.bitsOf(block));
        x.receive(0);
        return x.word(0, 0);
    }

    /** "the craft 0". */
    private static void hasCraftZero() {
        Check.same("new: craft", new Counted().craft(1023), 0);
        Counted x = new Counted();
        x.sendFrame(0);
        x.receive(0);
        Check.same("new: craft of a frame", x.block(0, 5), 0);
        Check.same("new: bytes 0 and 1", x.frame(0, 0) & 0xFFFF, 0);
    }

    /** "no data". */
    private static void hasNoData() {
        Check.same("new: data", new Counted().told(4), 0);
        Check.refused("new: send", () -> new Counted().send(0), IllegalStateException.class);
        Counted x = new Counted();
        int[] due = {8, 16, 24, Counted.NONE};
        for (int answer : due) {
            Check.same("new: data fit", x.data(8, 1), answer);
        }
        Check.same("new: the last ones fit", x.data(7, 1), 31);
    }

    /** "an empty line". */
    private static void hasAnEmptyLine() {
        Check.same("new: line bits", new Counted().told(3), 0);
        for (int i : new int[] {-64, -63, -1, 0, 1, 4032, 4095, 4096}) {
            Check.same("new: line(" + i + ")", new Counted().line(i), 0);
            Check.same("new: turn(" + i + ", -1)", new Counted().turn(i, -1), 0);
        }
        Counted x = new Counted();
        Check.same("new: 4096 bits have room", x.put("0".repeat(2048)), 4096);
    }

    /** "all counts 0": the master count, and those of all channels. */
    private static void hasCountsZero() {
        for (int channel = 0; channel < 8; channel++) {
            Counted x = new Counted();
            x.sendFrame(channel);
            x.receive(0);
            Check.same("new: counts, channel " + channel, x.frame(0, 2) & 0xFFFF, 0);
        }
    }

    /** "nothing was received". */
    private static void hasReceivedNothing() {
        for (int what = 5; what <= 7; what++) {
            Check.same("new: told(" + what + ")", new Counted().told(what), 0);
        }
        for (int i : new int[] {-64, -1, 0, 1, 64, 4095}) {
            Check.same("new: decoded(" + i + ")", new Counted().decoded(i), 0);
        }
        for (int k : new int[] {-1, 0, 1, 15}) {
            Check.refused("new: block " + k, () -> new Counted().block(k, 0), IndexOutOfBoundsException.class);
            Check.refused("new: word " + k, () -> new Counted().word(k, 0), IndexOutOfBoundsException.class);
            Check.refused("new: frame " + k, () -> new Counted().frame(k, 0), IndexOutOfBoundsException.class);
        }
    }

    /** "A register of seven bits is 0 at first": the first bits have no 1 before them. */
    private static void hasARegisterOfZero() {
        Counted zeros = new Counted();
        zeros.plain(7, 0);
        Check.same("new: seven 0", zeros.lineRow(), "01".repeat(7));
        Counted one = new Counted();
        one.plain(1, 1);
        Check.same("new: a 1", one.lineRow(), "10");
    }

    /** What one object does leaves another one as at first. */
    private static void objectsAreApart() {
        Counted first = new Counted();
        Counted busy = Counted.of(Counted.SMALLEST_DENSE);
        busy.craft(99);
        busy.sendFrame(3);
        busy.receive(0);
        Check.same("new: beside a busy one", first.comes(), new Counted().comes());
    }
}
