/** Promise 12: decoded. */
public final class DecodedTest {
    public static void main(String[] args) {
        nothingYet();
        windowsOfAShortRow();
        windowsOfTheLongestRow();
        oneBit();
        farOff();
        asItWasReceivedLast();
        Check.end();
    }

    /** "nothing was received": a row is there only when receive() has found it. */
    private static void nothingYet() {
        Counted x = new Counted();
        for (int i : new int[] {-64, -1, 0, 1, 64}) {
            Check.same("decoded(" + i + ") of a new object", x.decoded(i), 0);
        }
        x.plain(64, -1);
        Check.same("decoded: not before it is received", x.decoded(0), 0);
        Counted empty = new Counted();
        empty.receive(0);
        Check.same("decoded: of an empty line", empty.decoded(0), 0);
        Check.same("decoded: bits of an empty line", empty.told(5), 0);
    }

    /** "64 bits of the decoded row from place i on, the first one the lowest; 0 for those places ... that there are not". */
    private static void windowsOfAShortRow() {
        String row = Rows.noise(100, 11);
        Counted x = new Counted();
        x.put(row);
        x.receive(0);
        for (int i = -70; i < 110; i++) {
            Check.same("decoded(" + i + ") of 100", x.decoded(i), Rows.window(row, i));
        }
    }

    /** "also below 0", and behind the longest row that each pattern has room for. */
    private static void windowsOfTheLongestRow() {
        int[] most = {2048, 2730, 3072, 3413, 3584};
        for (int pattern = 0; pattern <= 4; pattern++) {
            String row = Rows.noise(most[pattern] - 1, 12) + "1";
            Counted x = Counted.of(1, 200, 8, pattern);
            x.put(row);
            x.receive(0);
            int end = most[pattern];
            for (int i : new int[] {-64, -63, -1, 0, 1, 64, end - 65, end - 64, end - 63, end - 1, end, end + 1, 4095, 4096}) {
                Check.same("decoded(" + i + "), pattern " + pattern, x.decoded(i), Rows.window(row, i));
            }
            Check.same("decoded: the last one is the lowest", x.decoded(end - 1), 1);
            Check.same("decoded: behind it", x.decoded(end), 0);
        }
    }

    /** The least row there is. */
    private static void oneBit() {
        Counted x = new Counted();
        x.plain(1, 1);
        x.receive(0);
        Check.same("decoded(0) of 1", x.decoded(0), 1);
        Check.same("decoded(1) of 1", x.decoded(1), 0);
        Check.same("decoded(-1) of 1", x.decoded(-1), 2);
        Check.same("decoded(-63) of 1", x.decoded(-63), Long.MIN_VALUE);
        Check.same("decoded(-64) of 1", x.decoded(-64), 0);
    }

    /** Places far off are not there, also where an int goes round. */
    private static void farOff() {
        Counted x = Counted.of(1, 200, 8, 4);
        x.put("1".repeat(3584));
        x.receive(0);
        for (int i = 0; i < 70; i++) {
            Check.same("decoded: far behind", x.decoded(Integer.MAX_VALUE - i), 0);
            Check.same("decoded: far below", x.decoded(Integer.MIN_VALUE + i), 0);
        }
        for (int i : new int[] {1 << 30, -(1 << 30), 65536, -65536, 4096 * 64, -4096 * 64}) {
            Check.same("decoded(" + i + ")", x.decoded(i), 0);
        }
        Check.same("decoded: all 1", x.decoded(0), -1);
    }

    /** Not the row before, not what the line became since, and nothing of a longer row behind a shorter one. */
    private static void asItWasReceivedLast() {
        Counted x = new Counted();
        x.plain(64, -1);
        x.receive(0);
        x.plain(64, -1);
        x.turn(0, -1);
        Check.same("decoded: as it was", x.decoded(0), -1);
        Check.same("decoded: no more than there was", x.decoded(64), 0);
        x.receive(0);
        Check.same("decoded: anew", x.told(5), 128);
        Check.same("decoded: the end anew", x.decoded(100), (1L << 28) - 1);
        x.form(1, 200, 8, 0);
        x.plain(3, 5);
        x.receive(0);
        Check.same("decoded: a shorter one", x.decoded(0), 5);
        Check.same("decoded: nothing of the longer one", x.decoded(1), 2);
    }
}
