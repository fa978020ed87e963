/** Promise 6: send. */
public final class SendTest {
    private static final int[] MOST_SENT = {2048, 2730, 3072, 3413, 3584};

    public static void main(String[] args) {
        channels();
        refusedChannels();
        tooFewData();
        thenThereAreNone();
        masterCountGoesRound();
        channelCountGoesRound();
        channelsCountApart();
        answersTheBits();
        toTheLastBit();
        oneBitTooMany();
        noRoomChangesNothing();
        mostFrames();
        goesOnInTheCode();
        Check.end();
    }

    /** "channel is not 0 .. 7": all that it is. */
    private static void channels() {
        for (int channel = 0; channel <= 7; channel++) {
            Counted x = Counted.of(Counted.SMALLEST);
            Check.same("send(" + channel + ")", x.sendFrame(channel), 464);
            x.receive(0);
            Check.same("send(" + channel + "): read", x.block(0, 6), channel);
            Check.same("send(" + channel + "): byte 1", x.frame(0, 1) & 255, 2 * channel);
        }
    }

    /** One behind either end, and far off; with data and without, with room and without. */
    private static void refusedChannels() {
        for (int wrong : new int[] {-8, -2, -1, 8, 9, 16}) {
            refused(wrong);
        }
        for (int far : Rows.FAR) {
            refused(far);
        }
    }

    private static void refused(int wrong) {
        Counted x = Counted.of(Counted.SMALLEST);
        String name = "send(" + wrong + ")";
        Check.refused(name + " without data", () -> x.send(wrong), IllegalArgumentException.class);
        x.data(1, 33);
        Check.refused(name, () -> x.send(wrong), IllegalArgumentException.class);
        Check.same(name + ": data stay", x.told(4), 1);
        Check.same(name + ": line stays", x.told(3), 0);
        x.send(0);
        x.receive(0);
        Check.same(name + ": counts stay", x.frame(0, 2) & 0xFFFF, 0);
        Check.same(name + ": the byte stays", x.frame(0, 6) & 255, 33);
        x.put("0".repeat(2048 - 232));
        Check.refused(name + " without data or room", () -> x.send(wrong), IllegalArgumentException.class);
        x.data(1, 1);
        Check.refused(name + " without room", () -> x.send(wrong), IllegalArgumentException.class);
    }

    /** "IllegalStateException: there are not as many data as a frame has": none, and one too few. */
    private static void tooFewData() {
        int[][] forms = {{1, 230, 8, 0}, {1, 200, 8, 0}, {1, 5, 8, 1}, {8, 224, 8, 2}};
        for (int[] form : forms) {
            Counted x = Counted.of(form);
            int all = x.told(1);
            for (int some = 0; some < all; some++) {
                if (some < 2 || some > all - 3) {
                    Check.refused("send with " + some + " of " + all, () -> x.send(7), IllegalStateException.class);
                    Check.same("send with " + some + ": data stay", x.told(4), some);
                    Check.same("send with " + some + ": line stays", x.told(3), 0);
                }
                x.data(1, some);
            }
            Check.holds("send with " + all, x.send(7) > 0);
            x.receive(0);
            Check.same("send: refused ones do not count", x.frame(0, 2) & 0xFFFF, 0);
        }
    }

    /** "A frame with the data is sent on a channel; then there are none." */
    private static void thenThereAreNone() {
        Counted x = Counted.of(Counted.SMALLEST);
        x.sendFrame(0);
        Check.same("send: no data wait", x.told(4), 0);
        Check.refused("send: not again", () -> x.send(0), IllegalStateException.class);
        Check.same("send: not again, line", x.told(3), 464);
    }

    /** "how many frames were sent before ... modulo 256". */
    private static void masterCountGoesRound() {
        Counted x = Counted.of(Counted.SMALLEST_DENSE);
        x.skips(254, 3);
        int[] due = {254, 255, 0, 1};
        for (int n = 0; n < 4; n++) {
            x.sendFrame(n);
        }
        x.receive(0);
        for (int k = 0; k < 4; k++) {
            Check.same("send: master count " + k, x.frame(k, 2) & 255, due[k]);
            Check.same("send: good " + k, x.block(k, 4), 1);
        }
    }

    /** "and how many on this channel, both modulo 256": the frames of others do not count. */
    private static void channelCountGoesRound() {
        Counted x = Counted.of(Counted.SMALLEST_DENSE);
        x.skips(9, 4);
        x.skips(254, 7);
        int[] channels = {7, 4, 7, 7, 4};
        int[] due = {254, 9, 255, 0, 10};
        for (int channel : channels) {
            x.sendFrame(channel);
        }
        x.receive(0);
        for (int k = 0; k < 5; k++) {
            Check.same("send: channel count " + k, x.frame(k, 3) & 255, due[k]);
            Check.same("send: master count beside it " + k, x.frame(k, 2) & 255, 263 + k & 255);
        }
    }

    /** "how many on this channel": each has its own count, beside the one of all. */
    private static void channelsCountApart() {
        Counted x = Counted.of(Counted.SMALLEST_DENSE);
        for (int n = 0; n < 15; n++) {
            x.sendFrame(n * n % 8);
        }
        x.receive(0);
        int[] counts = new int[8];
        for (int k = 0; k < 15; k++) {
            int channel = k * k % 8;
            Check.same("send: count of channel " + channel, x.frame(k, 3) & 255, counts[channel]);
            Check.same("send: count of all", x.frame(k, 2) & 255, k);
            counts[channel]++;
        }
    }

    /** "Answers how many bits the line has": 32 and 8 for each byte of the block, less what is left out. */
    private static void answersTheBits() {
        int[] first = {464, 348, 310, 279, 266};
        int[] second = {928, 696, 619, 557, 531};
        for (int pattern = 0; pattern <= 4; pattern++) {
            Counted x = Counted.of(1, 230, 8, pattern);
            Check.same("send: pattern " + pattern, x.sendFrame(0), first[pattern]);
            Check.same("send: the same is told", x.told(3), first[pattern]);
            Check.same("send: once more", x.sendFrame(0), second[pattern]);
        }
    }

    /** "NONE when there would be more than 4096": not when the line is just filled. */
    private static void toTheLastBit() {
        int[] full = {4096, 4095, 4096, 4096, 4096};
        for (int pattern = 0; pattern <= 4; pattern++) {
            Counted x = Counted.of(1, 230, 8, pattern);
            x.put("0".repeat(MOST_SENT[pattern] - 232));
            x.data(1, 200);
            Check.same("send: to the last bit, pattern " + pattern, x.send(2), full[pattern]);
            x.receive(0);
            Check.same("send: the last bits are there", x.block(0, 0), MOST_SENT[pattern] - 200);
            Check.same("send: and good", x.block(0, 4), 1);
            x.data(1, 201);
            Check.same("send: then there is no room", x.send(2), Counted.NONE);
        }
    }

    /** "NONE when there would be more than 4096": by a single sent bit. */
    private static void oneBitTooMany() {
        for (int pattern = 0; pattern <= 4; pattern++) {
            Counted x = Counted.of(1, 230, 8, pattern);
            int before = x.put("0".repeat(MOST_SENT[pattern] - 231));
            x.data(1, 200);
            String row = x.lineRow();
            Check.same("send: a bit too many, pattern " + pattern, x.send(2), Counted.NONE);
            Check.same("send: a bit too many, bits", x.told(3), before);
            Check.same("send: a bit too many, line", x.lineRow(), row);
        }
        Counted greatest = Counted.of(1, 5, 8, 1);
        Check.same("send: the greatest block", greatest.sendFrame(0), 3048);
        greatest.fillData(3);
        Check.same("send: not twice", greatest.send(0), Counted.NONE);
        Check.same("send: its data wait", greatest.told(4), 226);
    }

    /** The data wait still, and the bits behind go on as if nothing had been asked. */
    private static void noRoomChangesNothing() {
        for (int pattern = 0; pattern <= 4; pattern++) {
            Counted x = nearlyFull(pattern);
            Check.same("send: no room", x.send(6), Counted.NONE);
            Check.same("send: no room, and again", x.send(6), Counted.NONE);
            Check.same("send: no room, data", x.told(4), 1);
            Check.same("send: no room, pattern " + pattern, x.comes(), nearlyFull(pattern).comes());
        }
    }

    private static Counted nearlyFull(int pattern) {
        Counted x = Counted.of(1, 230, 8, pattern);
        x.put(Rows.noise(MOST_SENT[pattern] - 231, pattern));
        x.data(1, 200);
        return x;
    }

    /** As many frames as the line has room for, by each pattern, and not one more. */
    private static void mostFrames() {
        int[] most = {8, 11, 13, 14, 15};
        for (int pattern = 0; pattern <= 4; pattern++) {
            Counted x = Counted.of(1, 230, 8, pattern);
            for (int n = 0; n < most[pattern]; n++) {
                Check.holds("send: frame " + n + ", pattern " + pattern, x.sendFrame(n % 8) > 0);
            }
            x.data(1, 1);
            Check.same("send: no more, pattern " + pattern, x.send(0), Counted.NONE);
            Check.same("send: all are taken", x.receive(0), most[pattern]);
        }
    }

    /** "counted on from the beginning of the line": register and pattern go on from call to call. */
    private static void goesOnInTheCode() {
        for (int pattern = 0; pattern <= 4; pattern++) {
            int[] form = {1, 225, 8, pattern};
            Counted x = Counted.of(form);
            Model m = Rows.model(form);
            for (int n = 0; n < 3; n++) {
                x.plain(3 + n, 5);
                m.plain(3 + n, 5);
                x.fillData(n);
                m.data(6, n);
                Check.same("send: goes on " + n, x.send(n), m.send(n));
            }
            Check.same("send: goes on, pattern " + pattern, x.lineRow(), m.line.toString());
        }
    }
}
