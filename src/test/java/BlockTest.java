/** Promise 13: block, with the GOOD frames and the gaps of the terms. */
public final class BlockTest {
    private static final int NONE = Counted.NONE;

    public static void main(String[] args) {
        whats();
        noSuchBlock();
        wordsAndBytes();
        mostBytesPutRight();
        allWordsLost();
        goodNeedsItsCheck();
        goodNeedsAllItsWords();
        craftAndChannel();
        bytesThatSayNothing();
        noneOfOthers();
        firstHasNoGap();
        masterGapGoesRound();
        channelGapGoesRound();
        gapsOverBadFrames();
        gapsOfThisReceiving();
        Check.end();
    }

    private static Counted taken(int[] form, String bits) {
        Counted x = Counted.of(form);
        x.put(bits);
        x.receive(2);
        return x;
    }

    private static void facts(String name, Counted x, int k, int... due) {
        for (int what = 0; what <= 8; what++) {
            Check.same(name + ": block(" + k + ", " + what + ")", x.block(k, what), due[what]);
        }
    }

    /** The blocks of such frames, marked, one behind the other. */
    private static String row(Model m, int[]... frames) {
        StringBuilder row = new StringBuilder();
        for (int[] frame : frames) {
            row.append(Model.MARK).append(m.bitsOf(m.blockOf(frame)));
        }
        return row.toString();
    }

    private static int[] frame(Model m, int name, int master, int channel) {
        return m.frameOf(name, master, channel, new int[m.told(1)]);
    }

    /** "IllegalArgumentException: another what", also where there is no block. */
    private static void whats() {
        Counted x = taken(Counted.SMALLEST, Model.MARK + Rows.block(0, 0, 0, Counted.SMALLEST));
        facts("whats", x, 0, 32, 0, 0, 0, 1, 0, 0, 0, 0);
        for (int wrong : new int[] {-2, -1, 9, 10, Integer.MIN_VALUE, Integer.MAX_VALUE}) {
            for (int k : new int[] {-1, 0, 1, 15, 16, Integer.MIN_VALUE, Integer.MAX_VALUE}) {
                Check.refused("block(" + k + ", " + wrong + ")", () -> x.block(k, wrong), IllegalArgumentException.class);
            }
        }
    }

    /** "IndexOutOfBoundsException: there is no block k": none yet, none below 0, none behind the last. */
    private static void noSuchBlock() {
        Counted x = Counted.of(Counted.SMALLEST_DENSE);
        for (int taken = 0; taken <= 15; taken++) {
            for (int k : new int[] {-1, taken, taken + 1, Integer.MIN_VALUE, Integer.MAX_VALUE}) {
                Check.refused("block(" + k + ", 0) of " + taken, () -> x.block(k, 0), IndexOutOfBoundsException.class);
                Check.refused("block(" + k + ", 8) of " + taken, () -> x.block(k, 8), IndexOutOfBoundsException.class);
            }
            if (taken > 0) {
                Check.same("block: the last of " + taken, x.block(taken - 1, 0), 32 + 232 * (taken - 1));
                Check.same("block: the first of " + taken, x.block(0, 0), 32);
            }
            x.data(1, taken);
            x.send(taken % 8);
            x.receive(0);
        }
    }

    /** "the place behind its mark (what = 0), how many bits of that were wrong (1), how many words are lost (2) ...". */
    private static void wordsAndBytes() {
        int[] form = {2, 220, 8, 0};
        Model m = Rows.model(form);
        int[] some = m.blockOf(frame(m, 300 * 16 + 4, 10, 20));
        int[] lost = some.clone();
        Rows.spoil(some, 2, 0, 8, 3);
        Rows.spoil(some, 2, 1, 5, 20);
        Rows.spoil(lost, 2, 0, 4, 3);
        Rows.spoil(lost, 2, 1, 9, 2);
        Counted x = taken(form, "00110" + Rows.mark(2) + m.bitsOf(some) + Rows.mark(1) + m.bitsOf(lost));
        Check.same("words: taken", x.told(7), 2);
        facts("words", x, 0, 37, 2, 0, 13, 1, 300, 2, 0, 0);
        facts("words", x, 1, 629, 1, 1, 4, 0, NONE, NONE, NONE, NONE);
    }

    /** "how many bytes were put right in the others (3)": E in each word is the most there can be. */
    private static void mostBytesPutRight() {
        int[][] forms = {{1, 230, 8, 0}, {8, 230, 8, 0}, {5, 210, 16, 4}};
        for (int[] form : forms) {
            Model m = Rows.model(form);
            int[] block = m.blockOf(frame(m, 34, 7, 8));
            for (int j = 0; j < form[0]; j++) {
                Rows.spoil(block, form[0], j, form[2], j);
            }
            Counted x = taken(form, Model.MARK + m.bitsOf(block));
            facts("most put right", x, 0, 32, 0, 0, form[0] * form[2], 1, 2, 1, 0, 0);
        }
    }

    /** "how many words are lost (2)": all of them, and then no bytes are put right. */
    private static void allWordsLost() {
        int[] form = {8, 230, 8, 0};
        Model m = Rows.model(form);
        int[] block = m.blockOf(frame(m, 34, 7, 8));
        for (int j = 0; j < 8; j++) {
            Rows.spoil(block, 8, j, 9, j);
        }
        Counted x = taken(form, Model.MARK + m.bitsOf(block));
        facts("all lost", x, 0, 32, 0, 8, 0, 0, NONE, NONE, NONE, NONE);
    }

    /** "Its frame is GOOD if no word is lost and the last two bytes are the check": one wrong bit anywhere. */
    private static void goodNeedsItsCheck() {
        Model m = Rows.model(Counted.SMALLEST);
        int[] good = frame(m, 34, 7, 8);
        for (int bit = 0; bit < 72; bit++) {
            int[] bad = good.clone();
            bad[bit / 8] ^= 1 << bit % 8;
            Counted x = taken(Counted.SMALLEST, row(m, bad));
            facts("bit " + bit + " wrong", x, 0, 32, 0, 0, 0, 0, NONE, NONE, NONE, NONE);
        }
        Counted x = taken(Counted.SMALLEST, row(m, good));
        facts("no bit wrong", x, 0, 32, 0, 0, 0, 1, 2, 1, 0, 0);
        // All 0 is a codeword, but no check: that of seven 0 is another number.
        Counted zeros = taken(Counted.SMALLEST, row(m, new int[9]));
        facts("all 0", zeros, 0, 32, 0, 0, 0, 0, NONE, NONE, NONE, NONE);
    }

    /** A word that is lost in its check bytes alone leaves the frame whole, but not good. */
    private static void goodNeedsAllItsWords() {
        int[] form = {2, 220, 8, 0};
        Model m = Rows.model(form);
        int[] block = m.blockOf(frame(m, 34, 7, 8));
        Rows.spoil(block, 2, 1, 9, 22);
        Counted x = taken(form, Model.MARK + m.bitsOf(block));
        facts("lost in its checks", x, 0, 32, 0, 1, 0, 0, NONE, NONE, NONE, NONE);
        Check.same("lost in its checks: the frame is whole", x.frame(0, 0), Rows.eight(frame(m, 34, 7, 8), 0));
    }

    /** "its craft (5: the ten bits above the lowest four of its bytes 0 and 1 ...), channel (6: the three bits above the lowest one)". */
    private static void craftAndChannel() {
        Model m = Rows.model(Counted.SMALLEST);
        for (int bit = 0; bit < 16; bit++) {
            Counted x = taken(Counted.SMALLEST, row(m, frame(m, 1 << bit, 0, 0)));
            int craft = bit >= 4 && bit < 14 ? 1 << bit - 4 : 0;
            int channel = bit >= 1 && bit < 4 ? 1 << bit - 1 : 0;
            facts("bit " + bit, x, 0, 32, 0, 0, 0, 1, craft, channel, 0, 0);
        }
        for (int name : new int[] {0, 14, 0x3FF0, 0x3FFE}) {
            Counted x = taken(Counted.SMALLEST, row(m, frame(m, name, 0, 0)));
            facts("name " + name, x, 0, 32, 0, 0, 0, 1, name >> 4, (name & 15) >> 1, 0, 0);
        }
    }

    /** "whatever the highest two are", the lowest bit, and the bytes 4 and 5: no sentence looks at them. */
    private static void bytesThatSayNothing() {
        Model m = Rows.model(Counted.SMALLEST);
        int[] frame = frame(m, 0xFFB7, 1, 2);
        frame[4] = 99;
        frame[5] = 98;
        Counted x = taken(Counted.SMALLEST, row(m, Model.withCheck(frame)));
        facts("bytes that say nothing", x, 0, 32, 0, 0, 0, 1, 0x3FB, 3, 0, 0);
    }

    /** "NONE of others": right between two good ones, whose numbers are left alone. */
    private static void noneOfOthers() {
        Model m = Rows.model(Counted.SMALLEST);
        int[] bad = frame(m, 34, 8, 9);
        bad[6] ^= 128;
        Counted x = taken(Counted.SMALLEST, row(m, frame(m, 34, 7, 8), bad, frame(m, 34, 9, 10)));
        facts("the one before", x, 0, 32, 0, 0, 0, 1, 2, 1, 0, 0);
        facts("the bad one", x, 1, 264, 0, 0, 0, 0, NONE, NONE, NONE, NONE);
        facts("the one behind", x, 2, 496, 0, 0, 0, 1, 2, 1, 1, 1);
    }

    /** "0 if there is none before": whatever its counts are; a channel has its own first one. */
    private static void firstHasNoGap() {
        Model m = Rows.model(Counted.SMALLEST_DENSE);
        for (int count : new int[] {0, 1, 200, 255}) {
            Counted x = taken(Counted.SMALLEST_DENSE, row(m, frame(m, 2, count, count)));
            facts("first, count " + count, x, 0, 32, 0, 0, 0, 1, 0, 1, 0, 0);
        }
        int[][] frames = new int[8][];
        for (int channel = 0; channel < 8; channel++) {
            frames[channel] = frame(m, 2 * channel, 50 + channel, 99 - channel);
        }
        Counted x = taken(Counted.SMALLEST_DENSE, row(m, frames));
        for (int k = 0; k < 8; k++) {
            facts("first of channel " + k, x, k, 32 + 232 * k, 0, 0, 0, 1, 0, k, 0, 0);
        }
    }

    /** "its master count less that of the good one before and 1, modulo 256". */
    private static void masterGapGoesRound() {
        int[][] due = {{0, 1, 0}, {0, 2, 1}, {0, 0, 255}, {0, 255, 254}, {255, 0, 0}, {255, 255, 255}, {255, 254, 254},
            {1, 0, 254}, {254, 0, 1}, {127, 128, 0}, {128, 127, 254}, {5, 5, 255}};
        Model m = Rows.model(Counted.SMALLEST);
        for (int[] d : due) {
            Counted x = taken(Counted.SMALLEST, row(m, frame(m, 0, d[0], 0), frame(m, 2, d[1], 0)));
            Check.same("master gap of " + d[0] + " and " + d[1], x.block(1, 7), d[2]);
            Check.same("channel gap beside it", x.block(1, 8), 0);
        }
    }

    /** "the CHANNEL GAP the same with the channel count and the good one before of the same channel". */
    private static void channelGapGoesRound() {
        int[][] due = {{0, 1, 0}, {0, 2, 1}, {0, 0, 255}, {0, 255, 254}, {255, 0, 0}, {255, 255, 255}, {255, 254, 254},
            {1, 0, 254}, {254, 0, 1}, {127, 128, 0}, {128, 127, 254}};
        Model m = Rows.model(Counted.SMALLEST);
        for (int channel = 0; channel < 8; channel++) {
            for (int[] d : due) {
                int other = (channel + 1) % 8 * 2;
                Counted x = taken(Counted.SMALLEST,
                        row(m, frame(m, 2 * channel, 0, d[0]), frame(m, other, 1, 77), frame(m, 2 * channel, 2, d[1])));
                String name = "channel gap of " + d[0] + " and " + d[1] + ", channel " + channel;
                Check.same(name, x.block(2, 8), d[2]);
                Check.same(name + ": master gap beside it", x.block(2, 7), 0);
                Check.same(name + ": the other one", x.block(1, 8), 0);
            }
        }
    }

    /** "that of the good one before": bad ones are passed over, also when all before are bad; crafts say nothing. */
    private static void gapsOverBadFrames() {
        Model m = Rows.model(Counted.SMALLEST);
        int[] bad = frame(m, 2, 251, 10);
        bad[8] ^= 1;
        Counted x = taken(Counted.SMALLEST,
                row(m, bad, frame(m, 2, 250, 9), bad, bad, frame(m, 16 + 2, 3, 4), frame(m, 2, 3, 4)));
        int[] master = {NONE, 0, NONE, NONE, 8, 255};
        int[] channel = {NONE, 0, NONE, NONE, 250, 255};
        for (int k = 0; k < 6; k++) {
            Check.same("over bad ones: master gap " + k, x.block(k, 7), master[k]);
            Check.same("over bad ones: channel gap " + k, x.block(k, 8), channel[k]);
        }
    }

    /** "(from this receiving)": what was received before does not count, also when it is the same line again. */
    private static void gapsOfThisReceiving() {
        Counted x = Counted.of(Counted.SMALLEST);
        x.skips(3, 1);
        for (int n = 0; n < 3; n++) {
            x.sendFrame(1);
            x.skip(1);
        }
        int[] due = {0, 1, 1};
        for (int again = 0; again < 3; again++) {
            x.receive(0);
            for (int k = 0; k < 3; k++) {
                Check.same("receiving " + again + ": master gap " + k, x.block(k, 7), due[k]);
                Check.same("receiving " + again + ": channel gap " + k, x.block(k, 8), due[k]);
            }
        }
        for (int i = 128; i < 384; i += 64) {
            x.turn(i, -1);
        }
        x.receive(0);
        Check.same("the first one is bad now", x.block(0, 4), 0);
        Check.same("the next one has none before: master", x.block(1, 7), 0);
        Check.same("the next one has none before: channel", x.block(1, 8), 0);
        Check.same("the last one has", x.block(2, 7), 1);
    }
}
