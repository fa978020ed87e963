/** Promise 9: turn. */
public final class TurnTest {
    private static final String FIFTY = Rows.noise(50, 3);

    public static void main(String[] args) {
        eachBitOfALong();
        anEmptyLine();
        overTheEnd();
        overTheBeginning();
        aFullLine();
        farOff();
        noBits();
        twiceIsAsBefore();
        onlyTheLine();
        Check.end();
    }

    /** A line of 100 bits. */
    private static Counted hundred() {
        Counted x = new Counted();
        x.put(FIFTY);
        return x;
    }

    private static String hundredRow() {
        return Model.made(FIFTY, 0);
    }

    /** "The bits of the line from place i on for which the bits of a long, the lowest first, are 1". */
    private static void eachBitOfALong() {
        for (int b = 0; b < 64; b++) {
            Counted x = hundred();
            Check.same("turn: bit " + b, x.turn(3, 1L << b), 1);
            Check.same("turn: bit " + b + ", line", x.lineRow(), Rows.turned(hundredRow(), 3 + b, 4 + b));
        }
        Counted x = hundred();
        Check.same("turn: two of three", x.turn(10, 0b101), 2);
        String due = Rows.turned(Rows.turned(hundredRow(), 10, 11), 12, 13);
        Check.same("turn: two of three, line", x.lineRow(), due);
    }

    /** With no line there is nothing to turn, nor is it kept for later. */
    private static void anEmptyLine() {
        for (int i : new int[] {-64, -63, -1, 0, 1, 63, 4095, 4096}) {
            Counted x = new Counted();
            Check.same("turn(" + i + "), empty", x.turn(i, -1), 0);
            Check.same("turn(" + i + "), empty still", x.told(3), 0);
            Check.same("turn(" + i + "), nothing there", x.line(0), 0);
            x.plain(5, 9);
            Check.same("turn(" + i + "), nor later", x.lineRow(), Model.made("10010", 0));
        }
    }

    /** "Answers how many of these are there": those behind the end are not, nor become any. */
    private static void overTheEnd() {
        for (int i = 35; i <= 102; i++) {
            Counted x = hundred();
            int from = Math.min(i, 100);
            int there = Math.min(64, 100 - from);
            Check.same("turn(" + i + ", -1) of 100", x.turn(i, -1), there);
            Check.same("turn(" + i + ", -1): line", x.lineRow(), Rows.turned(hundredRow(), from, from + there));
            Check.same("turn(" + i + ", -1): nothing behind", x.line(100), 0);
            x.plain(40, 0);
            String later = Model.made(FIFTY + "0".repeat(40), 0).substring(100);
            Check.same("turn(" + i + ", -1): later bits", x.lineRow().substring(100), later);
        }
    }

    /** "Answers how many of these are there": those below 0 are not. */
    private static void overTheBeginning() {
        for (int i = -66; i <= 0; i++) {
            Counted x = hundred();
            int there = Math.max(0, 64 + i);
            Check.same("turn(" + i + ", -1)", x.turn(i, -1), there);
            Check.same("turn(" + i + ", -1): line", x.lineRow(), Rows.turned(hundredRow(), 0, there));
        }
        Counted x = hundred();
        Check.same("turn: the highest bit alone is there", x.turn(-63, Long.MIN_VALUE), 1);
        Check.same("turn: those below are not", x.turn(-63, Long.MAX_VALUE), 0);
        Check.same("turn: place 0", x.lineRow(), Rows.turned(hundredRow(), 0, 1));
    }

    /** "THE LINE has up to 4096 bits": the last of them can be turned, and none behind. */
    private static void aFullLine() {
        String bits = Rows.noise(2048, 1);
        int[] places = {0, 4031, 4032, 4033, 4094, 4095, 4096, 4097};
        int[] due = {64, 64, 64, 63, 2, 1, 0, 0};
        for (int n = 0; n < places.length; n++) {
            Counted x = new Counted();
            x.put(bits);
            Check.same("turn(" + places[n] + ", -1), full", x.turn(places[n], -1), due[n]);
            int from = Math.min(places[n], 4096);
            Check.same("turn(" + places[n] + "), full, line", x.lineRow(),
                    Rows.turned(Model.made(bits, 0), from, from + due[n]));
        }
    }

    /** Places far off are not there, also where an int goes round and comes back to 0. */
    private static void farOff() {
        Counted x = new Counted();
        x.put(Rows.noise(2048, 2));
        String before = x.lineRow();
        for (int i = 0; i < 70; i++) {
            Check.same("turn: far behind", x.turn(Integer.MAX_VALUE - i, -1), 0);
            Check.same("turn: far below", x.turn(Integer.MIN_VALUE + i, -1), 0);
        }
        for (int i : new int[] {1 << 30, -(1 << 30), 65536, -65536, 4096 * 64, -4096 * 64}) {
            Check.same("turn(" + i + ")", x.turn(i, -1), 0);
        }
        Check.same("turn: far off, line", x.lineRow(), before);
    }

    /** "for which the bits of a long, the lowest first, are 1": there are none. */
    private static void noBits() {
        Counted x = hundred();
        for (int i : new int[] {-1, 0, 50, 99, 100}) {
            Check.same("turn(" + i + ", 0)", x.turn(i, 0), 0);
        }
        Check.same("turn: no bits, line", x.lineRow(), hundredRow());
    }

    /** "become the other ones": twice, and they are the same again. */
    private static void twiceIsAsBefore() {
        Counted x = hundred();
        x.turn(30, 0x0F0F_3C3C_A5A5_FFFFL);
        Check.holds("turn: once, other ones", !x.lineRow().equals(hundredRow()));
        x.turn(30, 0x0F0F_3C3C_A5A5_FFFFL);
        Check.same("turn: twice, the same", x.lineRow(), hundredRow());
    }

    /** The register, the counts, the data and what was received stay. */
    private static void onlyTheLine() {
        Counted x = busy();
        x.turn(0, -1);
        x.turn(0, -1);
        Check.same("turn: only the line", x.comes(), busy().comes());
        Counted y = busy();
        String received = y.decodedRow() + y.told(6) + y.told(7) + y.frame(0, 0);
        y.turn(0, -1);
        Check.same("turn: not what was received", y.decodedRow() + y.told(6) + y.told(7) + y.frame(0, 0), received);
    }

    private static Counted busy() {
        Counted x = Counted.of(1, 225, 8, 3);
        x.craft(12);
        x.sendFrame(7);
        x.plain(9, 77);
        x.receive(0);
        x.data(2, 513);
        return x;
    }
}
