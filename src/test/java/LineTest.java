/** Promise 10: line. */
public final class LineTest {
    public static void main(String[] args) {
        windowsOfAShortLine();
        windowsOfAFullLine();
        oneBit();
        farOff();
        changesNothing();
        Check.end();
    }

    /** "64 bits of the line from place i on, the first one the lowest; 0 for those places ... that there are not". */
    private static void windowsOfAShortLine() {
        String bits = Rows.noise(40, 9);
        String row = Rows.turned(Model.made(bits, 0), 0, 80);
        Counted x = new Counted();
        x.put(bits);
        x.turn(0, -1);
        x.turn(64, -1);
        for (int i = -70; i < 90; i++) {
            Check.same("line(" + i + ") of 80", x.line(i), Rows.window(row, i));
        }
    }

    /** "also below 0", and behind the greatest line there is. */
    private static void windowsOfAFullLine() {
        String bits = Rows.noise(2048, 10);
        String row = Model.made(bits, 0);
        Counted x = new Counted();
        x.put(bits);
        for (int i : new int[] {-65, -64, -63, -32, -1, 0, 1, 63, 64, 65, 2000, 4031, 4032, 4033, 4064, 4094, 4095}) {
            Check.same("line(" + i + "), full", x.line(i), Rows.window(row, i));
        }
        for (int i : new int[] {4096, 4097, 4159, 4160, 8192, -64, -65, -4096}) {
            Check.same("line(" + i + "), full, is 0", x.line(i), 0);
        }
        x.turn(4095, 1);
        x.turn(0, 1);
        Check.same("line(-63): the first one is the highest", x.line(-63), (long) (row.charAt(0) ^ '1') << 63);
        Check.same("line(4095): the last one is the lowest", x.line(4095), row.charAt(4095) ^ '1');
    }

    /** The least line there is: two bits of one sent bit. */
    private static void oneBit() {
        Counted x = new Counted();
        x.plain(1, 0);
        long[] due = {0, 0, 1, 2, 4};
        int[] places = {2, -64, 1, 0, -1};
        for (int n = 0; n < due.length; n++) {
            Check.same("line(" + places[n] + ") of 01", x.line(places[n]), due[n]);
        }
        Check.same("line(-62) of 01", x.line(-62), Long.MIN_VALUE);
        Check.same("line(-63) of 01", x.line(-63), 0);
    }

    /** Places far off are not there, also where an int goes round. */
    private static void farOff() {
        Counted x = new Counted();
        x.put("1".repeat(2048));
        x.turn(0, ~x.line(0));
        x.turn(4032, ~x.line(4032));
        for (int i = 0; i < 70; i++) {
            Check.same("line: far behind", x.line(Integer.MAX_VALUE - i), 0);
            Check.same("line: far below", x.line(Integer.MIN_VALUE + i), 0);
        }
        for (int i : new int[] {1 << 30, -(1 << 30), 65536, -65536, 4096 * 64, -4096 * 64, 1 << 12, 1 << 18}) {
            Check.same("line(" + i + ")", x.line(i), 0);
        }
        Check.same("line: all 1 at its beginning", x.line(0), -1);
        Check.same("line: all 1 at its end", x.line(4032), -1);
    }

    /** Asking is no sending: what comes then is the same. */
    private static void changesNothing() {
        Counted x = Counted.of(1, 225, 8, 4);
        Counted y = Counted.of(1, 225, 8, 4);
        x.sendFrame(2);
        y.sendFrame(2);
        for (int i = -70; i < 70; i++) {
            x.line(i);
        }
        Check.same("line changes nothing", x.comes(), y.comes());
    }
}
