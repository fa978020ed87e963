/** Promise 7: plain, and the CODE of the terms. */
public final class PlainTest {
    private static final int[] MOST_SENT = {2048, 2730, 3072, 3413, 3584};
    private static final int[] FULL = {4096, 4095, 4096, 4096, 4096};

    public static void main(String[] args) {
        edges();
        refused();
        soManyAndNoMore();
        lowestFirst();
        aLoneOne();
        registerForgetsAfterSeven();
        patternsByTurns();
        patternsGoOn();
        toTheLastBit();
        tooMany();
        noRoomChangesNothing();
        leavesFramesAlone();
        Check.end();
    }

    /** "n is not 1 .. 64": all that it is; "Answers how many bits the line has". */
    private static void edges() {
        for (int n = 1; n <= 64; n++) {
            Counted x = new Counted();
            Check.same("plain(" + n + ")", x.plain(n, -1), 2 * n);
            Check.same("plain(" + n + ") again", x.plain(n, 0), 4 * n);
            Check.same("plain(" + n + "): told", x.told(3), 4 * n);
        }
    }

    /** One behind either end, and far off; with an empty line and with a full one. */
    private static void refused() {
        for (int wrong : new int[] {-64, -1, 0, 65, 66, 128}) {
            refused(wrong);
        }
        for (int far : Rows.FAR) {
            refused(far);
        }
    }

    private static void refused(int wrong) {
        Counted x = new Counted();
        Check.refused("plain(" + wrong + ")", () -> x.plain(wrong, -1), IllegalArgumentException.class);
        Check.same("plain(" + wrong + ") changes nothing", x.told(3), 0);
        x.put("0".repeat(2048));
        Check.refused("plain(" + wrong + "), full", () -> x.plain(wrong, -1), IllegalArgumentException.class);
        Check.same("plain(" + wrong + ") changes nothing, full", x.told(3), 4096);
    }

    /** "So many bits": those above them say nothing. */
    private static void soManyAndNoMore() {
        for (int n = 1; n <= 64; n++) {
            long low = n == 64 ? 0x8123456789ABCDEFL : 0x8123456789ABCDEFL & (1L << n) - 1;
            Counted x = new Counted();
            x.plain(n, 0x8123456789ABCDEFL);
            Counted y = new Counted();
            y.plain(n, low);
            Check.same("plain(" + n + "): the bits above", x.lineRow(), y.lineRow());
            Check.same("plain(" + n + "): as made", x.lineRow(), Model.made(Rows.bits(low, n), 0));
        }
    }

    /** "the lowest first, are sent as they are". */
    private static void lowestFirst() {
        Counted x = new Counted();
        x.plain(5, 0b00110);
        x.plain(64, Long.MIN_VALUE + 1);
        x.receive(0);
        Check.same("plain: the lowest first", x.decodedRow(), "01100" + "1" + "0".repeat(62) + "1");
    }

    /** "1 if an odd number of the register's bits that 121 has are 1; and 1 if an even number of those that 91 has". */
    private static void aLoneOne() {
        Counted x = new Counted();
        x.plain(8, 1);
        StringBuilder due = new StringBuilder();
        for (int b = 6; b >= 0; b--) {
            due.append(121 >> b & 1).append(1 - (91 >> b & 1));
        }
        Check.same("plain: a lone 1", x.lineRow(), due + "01");
    }

    /** "A register of seven bits": a bit is in it for seven pairs, not for six or eight. */
    private static void registerForgetsAfterSeven() {
        for (int n = 1; n <= 10; n++) {
            Counted one = new Counted();
            one.plain(n, 1);
            Counted zero = new Counted();
            zero.plain(n, 0);
            boolean differs = !one.lineRow().substring(2 * n - 2).equals(zero.lineRow().substring(2 * n - 2));
            // Neither tap has the bit that is in the register as the third from the lowest one.
            Check.same("plain: bit 1 is in pair " + n, differs ? 1 : 0, n <= 7 && n != 5 ? 1 : 0);
        }
    }

    /** "first bits kept 10, 101, 10101, 1000101 (1 kept), second ones 11, 110, 11010, 1111010", once round and on. */
    private static void patternsByTurns() {
        String[] due = {"0101010101010101", "011011011011", "01100110011", "0110100110", "0111101001"};
        int[][] sizes = {{2, 4, 6, 8, 10, 12, 14, 16}, {2, 3, 5, 6, 8, 9, 11, 12}, {2, 3, 4, 6, 7, 8, 10, 11},
            {2, 3, 4, 5, 6, 8, 9, 10}, {2, 3, 4, 5, 6, 7, 8, 10}};
        for (int pattern = 0; pattern <= 4; pattern++) {
            Counted x = Counted.of(1, 200, 8, pattern);
            for (int n = 1; n <= 8; n++) {
                Check.same("plain: pattern " + pattern + ", bits " + n, x.plain(1, 0), sizes[pattern][n - 1]);
            }
            Check.same("plain: pattern " + pattern, x.lineRow(), due[pattern]);
        }
    }

    /** "counted on from the beginning of the line": calls of any size make the row that one would. */
    private static void patternsGoOn() {
        String bits = Rows.noise(300, 5);
        for (int pattern = 0; pattern <= 4; pattern++) {
            for (int size : new int[] {1, 3, 7, 13, 63, 64}) {
                Counted x = Counted.of(1, 200, 8, pattern);
                for (int i = 0; i < 300; i += size) {
                    x.put(bits.substring(i, Math.min(i + size, 300)));
                }
                Check.same("plain: pattern " + pattern + " by " + size, x.lineRow(), Model.made(bits, pattern));
            }
        }
    }

    /** "THE LINE has up to 4096 bits": it can be filled, by any number of bits at last. */
    private static void toTheLastBit() {
        for (int pattern = 0; pattern <= 4; pattern++) {
            for (int last : new int[] {1, 2, 63, 64}) {
                Counted x = Counted.of(1, 200, 8, pattern);
                String bits = Rows.noise(MOST_SENT[pattern], pattern);
                x.put(bits.substring(0, MOST_SENT[pattern] - last));
                Check.same("plain: the last " + last, x.put(bits.substring(MOST_SENT[pattern] - last)), FULL[pattern]);
                Check.same("plain: full", x.plain(1, 0), Counted.NONE);
                Check.same("plain: full of these", x.lineRow(), Model.made(bits, pattern));
                x.receive(0);
                Check.same("plain: all are decoded", x.decodedRow(), bits);
            }
        }
    }

    /** "NONE when there would be more than 4096": with so much room, just so many bits are sent. */
    private static void tooMany() {
        for (int pattern = 0; pattern <= 4; pattern++) {
            for (int room : new int[] {0, 1, 2, 5, 7, 62, 63}) {
                Counted x = Counted.of(1, 200, 8, pattern);
                int before = x.put("0".repeat(MOST_SENT[pattern] - room));
                for (int n : new int[] {64, room + 1}) {
                    Check.same("plain(" + n + ") with room for " + room, x.plain(n, -1), Counted.NONE);
                    Check.same("plain(" + n + ") with room for " + room + ": line", x.told(3), before);
                }
                if (room > 0) {
                    Check.same("plain(" + room + "): there is room", x.plain(room, 0), FULL[pattern]);
                }
            }
        }
    }

    /** Neither bits, register nor the place in the pattern: what is sent then is as without it. */
    private static void noRoomChangesNothing() {
        for (int pattern = 0; pattern <= 4; pattern++) {
            String bits = Rows.noise(MOST_SENT[pattern], 40 + pattern);
            Counted x = Counted.of(1, 200, 8, pattern);
            x.put(bits.substring(0, MOST_SENT[pattern] - 20));
            for (int n = 21; n <= 64; n++) {
                Check.same("plain(" + n + "): no room", x.plain(n, -1), Counted.NONE);
            }
            x.put(bits.substring(MOST_SENT[pattern] - 20));
            Check.same("plain: no room, pattern " + pattern, x.lineRow(), Model.made(bits, pattern));
        }
    }

    /** "through the code alone": no mark, no counts, no data. */
    private static void leavesFramesAlone() {
        Counted x = Counted.of(Counted.SMALLEST);
        x.data(1, 9);
        x.plain(64, -1);
        Check.same("plain: data stay", x.told(4), 1);
        x.send(0);
        Check.same("plain: no block of its own", x.receive(0), 1);
        Check.same("plain: counts stay", x.frame(0, 2) & 0xFFFF, 0);
        Check.same("plain: the frame is behind it", x.block(0, 0), 96);
    }
}
