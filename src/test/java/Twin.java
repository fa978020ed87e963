import java.util.Random;

/** A channel and its model, which get the same calls; every answer is held against the model's. */
final class Twin {
    final Counted x = new Counted();
    final Model m = new Model();
    private final String title;

    Twin(String title) {
        this.title = title;
    }

    int callsLeft() {
        return Counted.CALLS_MOST - x.calls();
    }

    private void both(String call, Check.Call real, Check.Call model) {
        String got = Check.outcome(real);
        String due = Check.outcome(model);
        Check.same(title + ", call " + x.calls() + ": " + call, got, due);
    }

    void form(int depth, int fill, int e, int pattern) {
        both("form(" + depth + ", " + fill + ", " + e + ", " + pattern + ")", () -> x.form(depth, fill, e, pattern), () -> {
            m.form(depth, fill, e, pattern);
            return 0;
        });
    }

    void craft(int craft) {
        both("craft(" + craft + ")", () -> x.craft(craft), () -> m.craft(craft));
    }

    void told(int what) {
        both("told(" + what + ")", () -> x.told(what), () -> m.told(what));
    }

    void data(int n, long bytes) {
        both("data(" + n + ", " + bytes + ")", () -> x.data(n, bytes), () -> m.data(n, bytes));
    }

    void send(int channel) {
        both("send(" + channel + ")", () -> x.send(channel), () -> m.send(channel));
    }

    void plain(int n, long bits) {
        both("plain(" + n + ", " + bits + ")", () -> x.plain(n, bits), () -> m.plain(n, bits));
    }

    void skip(int channel) {
        both("skip(" + channel + ")", () -> x.skip(channel), () -> {
            m.skip(channel);
            return 0;
        });
    }

    void turn(int i, long bits) {
        both("turn(" + i + ", " + bits + ")", () -> x.turn(i, bits), () -> m.turn(i, bits));
    }

    void line(int i) {
        both("line(" + i + ")", () -> x.line(i), () -> m.line(i));
    }

    void receive(int limit) {
        both("receive(" + limit + ")", () -> x.receive(limit), () -> m.receive(limit));
    }

    void decoded(int i) {
        both("decoded(" + i + ")", () -> x.decoded(i), () -> m.decoded(i));
    }

    void block(int k, int what) {
        both("block(" + k + ", " + what + ")", () -> x.block(k, what), () -> m.block(k, what));
    }

    void word(int k, int j) {
        both("word(" + k + ", " + j + ")", () -> x.word(k, j), () -> m.word(k, j));
    }

    void frame(int k, int i) {
        both("frame(" + k + ", " + i + ")", () -> x.frame(k, i), () -> m.frame(k, i));
    }

    /** As many data as a frame still needs. */
    void fillData(Random random) {
        for (int left = m.told(1) - m.told(4); left > 0; left = m.told(1) - m.told(4)) {
            data(Math.min(left, 8), random.nextLong());
        }
    }

    void plainBits(String bits) {
        for (int i = 0; i < bits.length(); i += 64) {
            String part = bits.substring(i, Math.min(i + 64, bits.length()));
            plain(part.length(), Rows.window(part, 0));
        }
    }

    /** All that can be asked without changing anything, until the calls of the object are used up. */
    void askAll() {
        for (int what = -1; what <= 8 && callsLeft() > 0; what++) {
            told(what);
        }
        for (int k = -1; k <= m.told(7); k++) {
            askBlock(k);
        }
        for (int i = -3; i < m.told(5) + 64 && callsLeft() > 0; i += 64) {
            decoded(i);
        }
        for (int i = -3; i < m.told(3) + 64 && callsLeft() > 0; i += 64) {
            line(i);
        }
    }

    private void askBlock(int k) {
        for (int what = -1; what <= 9 && callsLeft() > 0; what++) {
            block(k, what);
        }
        for (int j = -1; j <= m.depth && callsLeft() > 0; j++) {
            word(k, j);
        }
        for (int i = -1; i < m.told(0) && callsLeft() > 0; i += 8) {
            frame(k, i);
        }
    }
}
