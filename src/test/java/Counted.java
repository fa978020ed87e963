/**
 * A channel that counts its calls: what one answers behind its 512th call is free, so that no test
 * may ask for it.
 */
final class Counted {
    static final int NONE = -1;
    static final int CALLS_MOST = 512;

    /** The smallest block: 25 bytes, 9 of them the frame, with one byte of data. */
    static final int[] SMALLEST = {1, 230, 8, 0};

    /** The same with the pattern that leaves out most: 15 blocks have room in the line. */
    static final int[] SMALLEST_DENSE = {1, 230, 8, 4};

    private final DeepChannel x = new DeepChannel();
    private int calls = 0;

    static Counted of(int... form) {
        Counted made = new Counted();
        made.form(form[0], form[1], form[2], form[3]);
        return made;
    }

    int calls() {
        return calls;
    }

    private DeepChannel next() {
        calls++;
        if (calls > CALLS_MOST) {
            throw new AssertionError("a test asks for what is free: call " + calls);
        }
        return x;
    }

    // ---- the face

    long form(int depth, int fill, int e, int pattern) {
        next().form(depth, fill, e, pattern);
        return 0;
    }

    int craft(int craft) {
        return next().craft(craft);
    }

    int told(int what) {
        return next().told(what);
    }

    int data(int n, long bytes) {
        return next().data(n, bytes);
    }

    int send(int channel) {
        return next().send(channel);
    }

    int plain(int n, long bits) {
        return next().plain(n, bits);
    }

    long skip(int channel) {
        next().skip(channel);
        return 0;
    }

    int turn(int i, long bits) {
        return next().turn(i, bits);
    }

    long line(int i) {
        return next().line(i);
    }

    int receive(int limit) {
        return next().receive(limit);
    }

    long decoded(int i) {
        return next().decoded(i);
    }

    int block(int k, int what) {
        return next().block(k, what);
    }

    int word(int k, int j) {
        return next().word(k, j);
    }

    long frame(int k, int i) {
        return next().frame(k, i);
    }

    // ---- several calls at once

    void skips(int count, int channel) {
        for (int i = 0; i < count; i++) {
            skip(channel);
        }
    }

    /** As many data as a frame still needs. */
    void fillData(long bytes) {
        for (int left = told(1) - told(4); left > 0; left -= 8) {
            data(Math.min(left, 8), bytes);
        }
    }

    int sendFrame(int channel) {
        fillData(0x0123456789ABCDEFL);
        return send(channel);
    }

    /** Sends a row of bits, the first one first, as they are; answers what the last call did. */
    int put(String bits) {
        int answer = NONE;
        for (int i = 0; i < bits.length(); i += 64) {
            String part = bits.substring(i, Math.min(i + 64, bits.length()));
            answer = plain(part.length(), Rows.window(part, 0));
        }
        return answer;
    }

    String lineRow() {
        int size = told(3);
        StringBuilder row = new StringBuilder();
        for (int i = 0; i < size; i += 64) {
            row.append(Rows.bits(line(i), Math.min(size - i, 64)));
        }
        return row.toString();
    }

    String decodedRow() {
        int size = told(5);
        StringBuilder row = new StringBuilder();
        for (int i = 0; i < size; i += 64) {
            row.append(Rows.bits(decoded(i), Math.min(size - i, 64)));
        }
        return row.toString();
    }

    /** All that can be asked without changing anything, as a text. */
    String seen() {
        StringBuilder text = new StringBuilder("told");
        for (int what = 0; what <= 7; what++) {
            text.append(' ').append(told(what));
        }
        text.append(" line ").append(lineRow()).append(" decoded ").append(decodedRow());
        int size = told(0);
        int blocks = told(7);
        for (int k = 0; k < blocks; k++) {
            text.append(" block");
            for (int what = 0; what <= 8; what++) {
                text.append(' ').append(block(k, what));
            }
            text.append(" words");
            for (int j = 0; j < 8; j++) {
                text.append(' ').append(word(k, j));
            }
            text.append(" frame");
            for (int i = 0; i < size; i += 8) {
                text.append(' ').append(frame(k, i));
            }
        }
        return text.toString();
    }

    /**
     * What can't be asked, by what it does next: the craft, data, counts, register and place in
     * the pattern come out in the frames and bits that are sent from here on.
     */
    String comes() {
        StringBuilder text = new StringBuilder("craft " + craft(341) + " bits");
        for (int n = 1; n <= 32; n *= 2) {
            text.append(' ').append(plain(n, 0x5B3A9C6EL));
        }
        text.append(" craft ").append(craft(682)).append(" sent");
        for (int channel = 0; channel < 8; channel++) {
            fillData(0x1F2E3D4C5B6A7988L + channel);
            text.append(' ').append(send(channel));
        }
        text.append(" taken ").append(receive(1));
        return text + " " + seen();
    }
}
