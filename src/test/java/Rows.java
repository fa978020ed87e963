/** Rows of bits as texts, the first bit first, and bytes that are spoiled. */
final class Rows {
    /** Numbers far off, where an int goes round. */
    static final int[] FAR = {Integer.MIN_VALUE, Integer.MIN_VALUE + 1, Integer.MAX_VALUE - 1, Integer.MAX_VALUE};

    private Rows() {
    }

    static String bits(long bits, int n) {
        StringBuilder row = new StringBuilder();
        for (int i = 0; i < n; i++) {
            row.append(bits >>> i & 1);
        }
        return row.toString();
    }

    /** 64 bits of a row from a place on, the first one the lowest; 0 where there are none. */
    static long window(String row, int from) {
        long window = 0;
        for (int b = 0; b < 64; b++) {
            long place = (long) from + b;
            if (place >= 0 && place < row.length()) {
                window |= (long) (row.charAt((int) place) - '0') << b;
            }
        }
        return window;
    }

    /** Eight bytes from one on, the first one the lowest; 0 where there are none. */
    static long eight(int[] bytes, int from) {
        long window = 0;
        for (int n = 0; n < 8; n++) {
            long place = (long) from + n;
            if (place >= 0 && place < bytes.length) {
                window |= (long) bytes[(int) place] << (8 * n);
            }
        }
        return window;
    }

    /** The row with other bits from a place up to another one. */
    static String turned(String row, int from, int to) {
        StringBuilder text = new StringBuilder(row);
        for (int i = from; i < to; i++) {
            text.setCharAt(i, (char) (text.charAt(i) ^ 1));
        }
        return text.toString();
    }

    /** A row of bits in which nothing repeats, the same every time. */
    static String noise(int n, int seed) {
        StringBuilder row = new StringBuilder();
        long state = seed * 0x9E3779B97F4A7C15L + 1;
        for (int i = 0; i < n; i++) {
            state = state * 6364136223846793005L + 1442695040888963407L;
            row.append(state >>> 63);
        }
        return row.toString();
    }

    /** The mark with so many of its last bits wrong. */
    static String mark(int wrong) {
        return turned(Model.MARK, 32 - wrong, 32);
    }

    /** Other bytes for so many of a word, from byte i on. */
    static void spoil(int[] block, int depth, int word, int count, int i) {
        for (int n = 0; n < count; n++) {
            block[(i + n) * depth + word] ^= 13 * n + 1;
        }
    }

    static Model model(int... form) {
        Model made = new Model();
        made.form(form[0], form[1], form[2], form[3]);
        return made;
    }

    /** A block as it is sent, without its mark, of a frame with zeros for data. */
    static String block(int name, int master, int channel, int... form) {
        Model m = model(form);
        return m.bitsOf(m.blockOf(m.frameOf(name, master, channel, new int[m.told(1)])));
    }
}
