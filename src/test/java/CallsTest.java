/** "An object is used for at most 512 calls after it has been made": the last of them answers as the first. */
public final class CallsTest {
    public static void main(String[] args) {
        skipsToTheLast();
        formsToTheLast();
        receivesToTheLast();
        bitsToTheLast();
        refusedToTheLast();
        askedToTheLast();
        Check.end();
    }

    private static void used(Counted x) {
        Check.same("calls are used up", x.calls(), Counted.CALLS_MOST);
    }

    private static void skipsToTheLast() {
        Counted x = new Counted();
        x.form(1, 230, 8, 0);
        x.skips(507, 6);
        x.data(1, 1);
        x.send(6);
        x.receive(0);
        Check.same("calls: counts after 507 skips", x.frame(0, 2) & 0xFFFF, 251 * 257);
        used(x);
    }

    private static void formsToTheLast() {
        Counted x = new Counted();
        for (int n = 0; n < 511; n++) {
            x.form(1 + n % 5, 205 + n % 12, 8, n % 5);
        }
        Check.same("calls: a frame of the form before", x.told(0), 1 * (255 - 205 - 510 % 12 - 16));
        used(x);
    }

    private static void receivesToTheLast() {
        Counted x = Counted.of(Counted.SMALLEST_DENSE);
        for (int n = 0; n < 15; n++) {
            x.data(1, n);
            x.send(n % 8);
        }
        for (int n = 0; n < 481; n++) {
            Check.same("calls: receive " + n, x.receive(n % 9), 15);
        }
        used(x);
    }

    private static void bitsToTheLast() {
        Counted x = new Counted();
        for (int n = 1; n <= 511; n++) {
            Check.same("calls: plain " + n, x.plain(1, n), 2 * n);
        }
        Check.same("calls: line", x.line(960), Rows.window(Model.made("10".repeat(256), 0).substring(0, 1022), 960));
        used(x);
    }

    private static void refusedToTheLast() {
        Counted x = new Counted();
        for (int n = 0; n < 255; n++) {
            Check.refused("calls: send " + n, () -> x.send(0), IllegalStateException.class);
            Check.refused("calls: block " + n, () -> x.block(0, 0), IndexOutOfBoundsException.class);
        }
        Check.same("calls: data", x.data(8, 1), 8);
        Check.same("calls: told", x.told(4), 8);
        used(x);
    }

    private static void askedToTheLast() {
        Counted x = Counted.of(Counted.SMALLEST);
        x.sendFrame(3);
        x.receive(0);
        long due = x.frame(0, 0);
        while (x.calls() < Counted.CALLS_MOST) {
            Check.same("calls: frame", x.frame(0, 0), due);
        }
        used(x);
    }
}
