import java.util.Random;

/** A channel and its model, which get the same calls; every answer is held against the model's. */
final class Twin {
    final DeepChannel x = new DeepChannel();
    final Model m = new Model();
    private final String title;
    private int calls = 0;

    Twin(String title) {
        this.title = title;
    }

    int calls() {
        return calls;
    }

    private long both(String call, Check.Call real, Check.Call model) {
        calls++;
        String got = Check.outcome(real);
        String due = Check.outcome(model);
        Check.same(title + ", call " + calls + ": " + call, got, due);
        return due.startsWith("throws.") ? Model.NONE : Long.parseLong(due);
    }

    void form(int depth, int fill, int e, int pattern) {
        both("form(" + depth + ", " + fill + ", " + e + ", " + pattern + ")", () -> {
            x.form(depth, fill, e, pattern);
            return 0;
        }, () -> {
            m.form(depth, fill, e, pattern);
            return 0;
        });
    }

    long craft(int craft) {
        return both("craft(" + craft + ")", () -> x.craft(craft), () -> m.craft(craft));
    }

    long told(int what) {
        return both("told(" + what + ")", () -> x.told(what), () -> m.told(what));
    }

    long data(int n, long bytes) {
        return both("data(" + n + ", " + bytes + ")", () -> x.data(n, bytes), () -> m.data(n, bytes));
    }

    long send(int channel) {
        return both("send(" + channel + ")", () -> x.send(channel), () -> m.send(channel));
    }

    long plain(int n, long bits) {
        return both("plain(" + n + ", " + bits + ")", () -> x.plain(n, bits), () -> m.plain(n, bits));
    }

    void skip(int channel) {
        both("skip(" + channel + ")", () -> {
            x.skip(channel);
            return 0;
        }, () -> {
            m.skip(channel);
            return 0;
        });
    }

    long turn(int i, long bits) {
        return both("turn(" + i + ", " + bits + ")", () -> x.turn(i, bits), () -> m.turn(i, bits));
    }

    long line(int i) {
        return both("line(" + i + ")", () -> x.line(i), () -> m.line(i));
    }

    long receive(int limit) {
        return both("receive(" + limit + ")", () -> x.receive(limit), () -> m.receive(limit));
    }

    long decoded(int i) {
        return both("decoded(" + i + ")", () -> x.decoded(i), () -> m.decoded(i));
    }

    long block(int k, int what) {
        return both("block(" + k + ", " + what + ")", () -> x.block(k, what), () -> m.block(k, what));
    }

    long word(int k, int j) {
        return both("word(" + k + ", " + j + ")", () -> x.word(k, j), () -> m.word(k, j));
    }

    long frame(int k, int i) {
        return both("frame(" + k + ", " + i + ")", () -> x.frame(k, i), () -> m.frame(k, i));
    }

    /** As many data as a frame still needs. */
    void fillData(Random random) {
        for (int left = m.told(1) - m.told(4); left > 0; left = m.told(1) - m.told(4)) {
            data(Math.min(left, 8), random.nextLong());
        }
    }

    void plainBits(String bits) {
        for (int i = 0; i < bits.length(); i += 64) {
            String part = bits.substring(i, Math.min(i + 64, bits.length()));
            long value = 0;
            for (int b = 0; b < part.length(); b++) {
                value |= (long) (part.charAt(b) - '0') << b;
            }
            plain(part.length(), value);
        }
    }

    /** All that can be asked without changing anything; these calls do not count in a run. */
    void askAll() {
        int before = calls;
        for (int what = -1; what <= 8; what++) {
            told(what);
        }
        for (int i = -70; i < m.told(3) + 70; i += 61) {
            line(i);
        }
        for (int i = -70; i < m.told(5) + 70; i += 61) {
            decoded(i);
        }
        for (int k = -1; k <= m.told(7); k++) {
            for (int what = -1; what <= 9; what++) {
                block(k, what);
            }
            for (int j = -1; j <= 8; j++) {
                word(k, j);
            }
            for (int i = -9; i < m.told(0) + 9; i += 7) {
                frame(k, i);
            }
        }
        calls = before;
    }
}
