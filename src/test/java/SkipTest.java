/** Promise 8: skip. */
public final class SkipTest {
    public static void main(String[] args) {
        edges();
        refused();
        countsGoRound();
        leavesAllElse();
        showsAsAGap();
        Check.end();
    }

    /** "Both counts go on by one, as if a frame were sent on a channel": on each, and on no other. */
    private static void edges() {
        for (int skipped = 0; skipped <= 7; skipped++) {
            Counted x = Counted.of(Counted.SMALLEST_DENSE);
            x.skip(skipped);
            for (int channel = 0; channel <= 7; channel++) {
                x.sendFrame(channel);
            }
            x.receive(0);
            for (int channel = 0; channel <= 7; channel++) {
                String name = "skip(" + skipped + "), channel " + channel;
                Check.same(name + ": master", x.frame(channel, 2) & 255, channel + 1);
                Check.same(name + ": its own", x.frame(channel, 3) & 255, channel == skipped ? 1 : 0);
            }
        }
    }

    /** "IllegalArgumentException: channel is not 0 .. 7." Neither count goes on. */
    private static void refused() {
        for (int wrong : new int[] {-8, -2, -1, 8, 9, 16}) {
            refused(wrong);
        }
        for (int far : Rows.FAR) {
            refused(far);
        }
    }

    private static void refused(int wrong) {
        Counted x = Counted.of(Counted.SMALLEST_DENSE);
        x.skip(3);
        Check.refused("skip(" + wrong + ")", () -> x.skip(wrong), IllegalArgumentException.class);
        Counted y = Counted.of(Counted.SMALLEST_DENSE);
        y.skip(3);
        Check.same("skip(" + wrong + ") changes nothing", x.comes(), y.comes());
    }

    /** Modulo 256, both of them: 255, 256 and 257 frames were skipped before. */
    private static void countsGoRound() {
        for (int count = 255; count <= 257; count++) {
            Counted x = Counted.of(Counted.SMALLEST);
            x.skips(count, 2);
            x.sendFrame(2);
            x.sendFrame(5);
            x.receive(0);
            Check.same("skip: master count after " + count, x.frame(0, 2) & 255, count % 256);
            Check.same("skip: channel count after " + count, x.frame(0, 3) & 255, count % 256);
            Check.same("skip: master count on after " + count, x.frame(1, 2) & 255, (count + 1) % 256);
            Check.same("skip: another channel after " + count, x.frame(1, 3) & 255, 0);
            Check.same("skip: no gap between them", x.block(1, 7), 0);
        }
    }

    /** Counts alone: data, line and what was received stay, and no data are needed. */
    private static void leavesAllElse() {
        Counted x = busy();
        String before = x.seen();
        x.skip(0);
        x.skip(7);
        Check.same("skip: all that can be asked stays", x.seen(), before);
        Counted full = new Counted();
        full.put("0".repeat(2048));
        full.skip(1);
        Check.same("skip: with a full line", full.told(3), 4096);
    }

    private static Counted busy() {
        Counted x = Counted.of(1, 225, 8, 4);
        x.sendFrame(7);
        x.plain(9, 77);
        x.receive(0);
        x.data(2, 513);
        return x;
    }

    /** "as if a frame were sent on a channel": the receiver misses it. */
    private static void showsAsAGap() {
        Counted x = Counted.of(Counted.SMALLEST);
        x.sendFrame(4);
        x.skip(4);
        x.skip(1);
        x.sendFrame(4);
        x.receive(0);
        Check.same("skip: master gap", x.block(1, 7), 2);
        Check.same("skip: channel gap", x.block(1, 8), 1);
    }
}
