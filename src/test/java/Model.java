import java.util.ArrayList;
import java.util.Arrays;
import java.util.List;

/**
 * The document once more, slowly, and by other ways than the class: products bit by bit, check
 * bytes and wrong bytes by linear equations, the nearest row by carrying whole rows along.
 */
final class Model {
    static final int NONE = -1;
    static final String MARK = binary(449838109, 32);

    /** What was found in a block. */
    static final class Taken {
        int place;
        int markWrong;
        int[] frame;
        int[] putRight;
        boolean good;
        int masterGap = NONE;
        int channelGap = NONE;

        int lost() {
            int lost = 0;
            for (int count : putRight) {
                lost += count == NONE ? 1 : 0;
            }
            return lost;
        }

        int sum() {
            int sum = 0;
            for (int count : putRight) {
                sum += Math.max(count, 0);
            }
            return sum;
        }

        int name() {
            return frame[0] * 256 + frame[1];
        }
    }

    int depth = 1;
    int fill = 200;
    int e = 8;
    int pattern = 0;
    int craft = 0;
    final List<Integer> data = new ArrayList<>();
    StringBuilder sent = new StringBuilder();
    StringBuilder line = new StringBuilder();
    int master = 0;
    int[] channels = new int[8];
    String decoded = "";
    int differing = 0;
    List<Taken> blocks = new ArrayList<>();

    // ---- the face

    void form(int newDepth, int newFill, int newE, int newPattern) {
        boolean ranges = Arrays.asList(1, 2, 3, 4, 5, 8).contains(newDepth)
                && newFill >= 0 && newFill <= 250
                && (newE == 8 || newE == 16) && newPattern >= 0 && newPattern <= 4;
        int size = ranges ? 255 - newFill : 0;
        if (!ranges || size <= 2 * newE || newDepth * (size - 2 * newE) < 9 || newDepth * size > 250) {
            throw new IllegalArgumentException();
        }
        depth = newDepth;
        fill = newFill;
        e = newE;
        pattern = newPattern;
        data.clear();
        sent = new StringBuilder();
        line = new StringBuilder();
        master = 0;
        channels = new int[8];
        decoded = "";
        differing = 0;
        blocks = new ArrayList<>();
    }

    int craft(int newCraft) {
        require(newCraft >= 0 && newCraft <= 1023);
        int old = craft;
        craft = newCraft;
        return old;
    }

    int told(int what) {
        require(what >= 0 && what <= 7);
        int[] answers = {frameBytes(), frameBytes() - 8, depth * wordBytes(), line.length(), data.size(),
            decoded.length(), differing, blocks.size()};
        return answers[what];
    }

    int data(int n, long bytes) {
        require(n >= 1 && n <= 8);
        if (data.size() + n > frameBytes() - 8) {
            return NONE;
        }
        for (int i = 0; i < n; i++) {
            data.add((int) (bytes >> (8 * i)) & 255);
        }
        return data.size();
    }

    int send(int channel) {
        require(channel >= 0 && channel <= 7);
        if (data.size() != frameBytes() - 8) {
            throw new IllegalStateException();
        }
        int[] values = new int[data.size()];
        for (int i = 0; i < values.length; i++) {
            values[i] = data.get(i);
        }
        int[] frame = frameOf(craft * 16 + channel * 2, master % 256, channels[channel] % 256, values);
        if (!put(MARK + bitsOf(blockOf(frame)))) {
            return NONE;
        }
        data.clear();
        skip(channel);
        return line.length();
    }

    int plain(int n, long bits) {
        require(n >= 1 && n <= 64);
        StringBuilder row = new StringBuilder();
        for (int i = 0; i < n; i++) {
            row.append((bits >> i & 1) == 1 ? '1' : '0');
        }
        return put(row.toString()) ? line.length() : NONE;
    }

    void skip(int channel) {
        require(channel >= 0 && channel <= 7);
        master++;
        channels[channel]++;
    }

    int turn(int i, long bits) {
        int count = 0;
        for (int b = 0; b < 64; b++) {
            long place = (long) i + b;
            if ((bits >> b & 1) == 1 && place >= 0 && place < line.length()) {
                int at = (int) place;
                line.setCharAt(at, line.charAt(at) == '0' ? '1' : '0');
                count++;
            }
        }
        return count;
    }

    long line(int i) {
        return window(line, i);
    }

    int receive(int limit) {
        require(limit >= 0 && limit <= 8);
        decoded = nearest(line.toString(), pattern);
        differing = distance(made(decoded, pattern), line.toString());
        takeBlocks(limit);
        findGaps();
        return blocks.size();
    }

    long decoded(int i) {
        return window(decoded, i);
    }

    int block(int k, int what) {
        require(what >= 0 && what <= 8);
        Taken b = taken(k);
        int name = b.name();
        int[] answers = {b.place, b.markWrong, b.lost(), b.sum(), b.good ? 1 : 0,
            b.good ? name / 16 % 1024 : NONE, b.good ? name / 2 % 8 : NONE, b.masterGap, b.channelGap};
        return answers[what];
    }

    int word(int k, int j) {
        Taken b = taken(k);
        return j >= 0 && j < depth ? b.putRight[j] : NONE;
    }

    long frame(int k, int i) {
        Taken b = taken(k);
        long bytes = 0;
        for (int n = 0; n < 8; n++) {
            long place = (long) i + n;
            if (place >= 0 && place < b.frame.length) {
                bytes |= (long) b.frame[(int) place] << (8 * n);
            }
        }
        return bytes;
    }

    // ---- frames and blocks

    int wordBytes() {
        return 255 - fill;
    }

    int frameBytes() {
        return depth * (wordBytes() - 2 * e);
    }

    int[] frameOf(int name, int masterCount, int channelCount, int[] values) {
        int[] frame = new int[frameBytes()];
        frame[0] = name / 256;
        frame[1] = name % 256;
        frame[2] = masterCount;
        frame[3] = channelCount;
        frame[4] = 24;
        frame[5] = 0;
        System.arraycopy(values, 0, frame, 6, values.length);
        return withCheck(frame);
    }

    static int[] withCheck(int[] frame) {
        int check = checkOf(Arrays.copyOf(frame, frame.length - 2));
        frame[frame.length - 2] = check / 256;
        frame[frame.length - 1] = check % 256;
        return frame;
    }

    /** The remainder of a polynomial division, which is what the document's register does. */
    static int checkOf(int[] bytes) {
        StringBuilder row = new StringBuilder();
        for (int b : bytes) {
            row.append(binary(b, 8));
        }
        row.append("0000000000000000");
        for (int i = 0; i < 16; i++) {
            flip(row, i);
        }
        for (int i = 0; i + 16 < row.length(); i++) {
            if (row.charAt(i) == '1') {
                flip(row, i);
                flip(row, i + 4);
                flip(row, i + 11);
                flip(row, i + 16);
            }
        }
        return Integer.parseInt(row.substring(row.length() - 16), 2);
    }

    int[] blockOf(int[] frame) {
        int size = wordBytes();
        int[][] words = new int[depth][size];
        for (int k = 0; k < frame.length; k++) {
            words[k % depth][k / depth] = frame[k];
        }
        int[] block = new int[depth * size];
        for (int j = 0; j < depth; j++) {
            addChecks(words[j], e);
            for (int i = 0; i < size; i++) {
                block[i * depth + j] = words[j][i];
            }
        }
        return block;
    }

    String bitsOf(int[] block) {
        int[] mixer = mixer();
        StringBuilder row = new StringBuilder();
        for (int t = 0; t < block.length; t++) {
            row.append(binary(block[t] ^ mixer[t], 8));
        }
        return row.toString();
    }

    static int[] mixer() {
        StringBuilder row = new StringBuilder("11111111");
        for (int i = 8; i < 8 * 255; i++) {
            int ones = 0;
            for (int back : new int[] {8, 5, 3, 1}) {
                ones += row.charAt(i - back) - '0';
            }
            row.append(ones % 2);
        }
        int[] bytes = new int[255];
        for (int t = 0; t < 255; t++) {
            bytes[t] = Integer.parseInt(row.substring(8 * t, 8 * t + 8), 2);
        }
        return bytes;
    }

    private void takeBlocks(int limit) {
        blocks = new ArrayList<>();
        int bits = 8 * depth * wordBytes();
        int p = 0;
        int follows = -1;
        while (decoded.length() - p >= 32 + bits) {
            int w = distance(decoded.substring(p, p + 32), MARK);
            if (w > limit && p != follows) {
                p++;
                continue;
            }
            Taken b = read(decoded.substring(p + 32, p + 32 + bits));
            b.place = p + 32;
            b.markWrong = w;
            blocks.add(b);
            p += 32 + bits;
            follows = w > limit ? -1 : p;
        }
    }

    private Taken read(String bits) {
        int[] mixer = mixer();
        int size = wordBytes();
        Taken b = new Taken();
        b.putRight = new int[depth];
        b.frame = new int[frameBytes()];
        for (int j = 0; j < depth; j++) {
            int[] word = new int[size];
            for (int i = 0; i < size; i++) {
                int t = i * depth + j;
                word[i] = Integer.parseInt(bits.substring(8 * t, 8 * t + 8), 2) ^ mixer[t];
            }
            b.putRight[j] = putRight(word, e);
            for (int i = 0; i < size - 2 * e; i++) {
                b.frame[i * depth + j] = word[i];
            }
        }
        int n = b.frame.length;
        int check = checkOf(Arrays.copyOf(b.frame, n - 2));
        b.good = b.lost() == 0 && check == b.frame[n - 2] * 256 + b.frame[n - 1];
        return b;
    }

    private void findGaps() {
        for (int k = 0; k < blocks.size(); k++) {
            Taken b = blocks.get(k);
            if (!b.good) {
                continue;
            }
            b.masterGap = 0;
            b.channelGap = 0;
            boolean masterSeen = false;
            boolean channelSeen = false;
            for (int i = k - 1; i >= 0; i--) {
                Taken before = blocks.get(i);
                if (before.good && !masterSeen) {
                    masterSeen = true;
                    b.masterGap = Math.floorMod(b.frame[2] - before.frame[2] - 1, 256);
                }
                if (before.good && !channelSeen && before.name() / 2 % 8 == b.name() / 2 % 8) {
                    channelSeen = true;
                    b.channelGap = Math.floorMod(b.frame[3] - before.frame[3] - 1, 256);
                }
            }
        }
    }

    private Taken taken(int k) {
        if (k < 0 || k >= blocks.size()) {
            throw new IndexOutOfBoundsException();
        }
        return blocks.get(k);
    }

    // ---- the line

    private boolean put(String bits) {
        String all = made(sent + bits, pattern);
        String before = made(sent.toString(), pattern);
        if (all.length() > 4096) {
            return false;
        }
        sent.append(bits);
        line.append(all.substring(before.length()));
        return true;
    }

    static final String[] FIRST = {"1", "10", "101", "10101", "1000101"};
    static final String[] SECOND = {"1", "11", "110", "11010", "1111010"};

    static boolean kept(String[] patterns, int pattern, int place) {
        String p = patterns[pattern];
        return p.charAt(place % p.length()) == '1';
    }

    static String pair(String register) {
        String first = binary(121, 7);
        String second = binary(91, 7);
        int a = 0;
        int b = 0;
        for (int i = 0; i < 7; i++) {
            a += register.charAt(i) == '1' && first.charAt(i) == '1' ? 1 : 0;
            b += register.charAt(i) == '1' && second.charAt(i) == '1' ? 1 : 0;
        }
        return (a % 2 == 1 ? "1" : "0") + (b % 2 == 0 ? "1" : "0");
    }

    static String made(String bits, int pattern) {
        StringBuilder made = new StringBuilder();
        int register = 0;
        for (int i = 0; i < bits.length(); i++) {
            register = register / 2 + 64 * (bits.charAt(i) - '0');
            String pair = PAIRS[register];
            if (kept(FIRST, pattern, i)) {
                made.append(pair.charAt(0));
            }
            if (kept(SECOND, pattern, i)) {
                made.append(pair.charAt(1));
            }
        }
        return made.toString();
    }

    static int sentBits(int lineBits, int pattern) {
        int n = 0;
        int made = 0;
        while (true) {
            made += (kept(FIRST, pattern, n) ? 1 : 0) + (kept(SECOND, pattern, n) ? 1 : 0);
            if (made > lineBits) {
                return n;
            }
            n++;
        }
    }

    /**
     * Forwards: of all rows that end in a register, the best in distance, then in order, is kept;
     * ranks[s] is the place in order of the row that is kept for s, among all that are kept.
     */
    static String nearest(String line, int pattern) {
        int n = sentBits(line.length(), pattern);
        int[][] parents = new int[n][64];
        int[] costs = new int[64];
        int[] ranks = new int[64];
        Arrays.fill(costs, FAR);
        costs[0] = 0;
        int place = 0;
        for (int t = 0; t < n; t++) {
            boolean first = kept(FIRST, pattern, t);
            boolean second = kept(SECOND, pattern, t);
            char[] seen = {first ? line.charAt(place++) : '-', second ? line.charAt(place++) : '-'};
            int[] longerCosts = new int[64];
            int[] keys = new int[64];
            for (int end = 0; end < 64; end++) {
                int bit = end / 32;
                int even = end % 32 * 2;
                int evenCost = costs[even] + miss(PAIRS[bit * 64 + even], seen);
                int oddCost = costs[even + 1] + miss(PAIRS[bit * 64 + even + 1], seen);
                boolean odd = oddCost < evenCost || oddCost == evenCost && ranks[even + 1] < ranks[even];
                parents[t][end] = odd ? even + 1 : even;
                longerCosts[end] = odd ? oddCost : evenCost;
                keys[end] = ranks[parents[t][end]] * 2 + bit;
            }
            costs = longerCosts;
            ranks = placesInOrder(keys);
        }
        return traced(parents, costs, ranks);
    }

    /** More than any line has bits: a register that no row comes to yet. */
    private static final int FAR = 1_000_000;

    private static int miss(String pair, char[] seen) {
        return (seen[0] != '-' && seen[0] != pair.charAt(0) ? 1 : 0)
                + (seen[1] != '-' && seen[1] != pair.charAt(1) ? 1 : 0);
    }

    private static int[] placesInOrder(int[] keys) {
        int[] sorted = keys.clone();
        Arrays.sort(sorted);
        int[] places = new int[keys.length];
        for (int i = 0; i < keys.length; i++) {
            places[i] = Arrays.binarySearch(sorted, keys[i]);
        }
        return places;
    }

    private static String traced(int[][] parents, int[] costs, int[] ranks) {
        int end = 0;
        for (int s = 1; s < 64; s++) {
            if (costs[s] < costs[end] || costs[s] == costs[end] && ranks[s] < ranks[end]) {
                end = s;
            }
        }
        StringBuilder row = new StringBuilder();
        for (int t = parents.length - 1; t >= 0; t--) {
            row.append(end / 32);
            end = parents[t][end];
        }
        return row.reverse().toString();
    }

    private static final String[] PAIRS = pairs();

    private static String[] pairs() {
        String[] pairs = new String[128];
        for (int r = 0; r < 128; r++) {
            pairs[r] = pair(binary(r, 7));
        }
        return pairs;
    }

    static int distance(String a, String b) {
        int count = 0;
        for (int i = 0; i < a.length(); i++) {
            count += a.charAt(i) != b.charAt(i) ? 1 : 0;
        }
        return count;
    }

    private static long window(CharSequence row, int i) {
        long bits = 0;
        for (int b = 0; b < 64; b++) {
            long place = (long) i + b;
            if (place >= 0 && place < row.length() && row.charAt((int) place) == '1') {
                bits |= 1L << b;
            }
        }
        return bits;
    }

    // ---- the field and its words

    static int times(int a, int b) {
        int product = 0;
        for (int k = 0; k < 8; k++) {
            product ^= (b >> k & 1) == 1 ? a << k : 0;
        }
        for (int k = 14; k >= 8; k--) {
            product ^= (product >> k & 1) == 1 ? 0x187 << (k - 8) : 0;
        }
        return product;
    }

    static int power(int a, int exponent) {
        int result = 1;
        for (int i = 0; i < exponent; i++) {
            result = times(result, a);
        }
        return result;
    }

    private static final int[] POWERS_OF_G = powersOfG();

    private static int[] powersOfG() {
        int g = power(2, 11);
        int[] powers = new int[255];
        for (int i = 0; i < 255; i++) {
            powers[i] = i == 0 ? 1 : times(powers[i - 1], g);
        }
        return powers;
    }

    static int g(int exponent) {
        return POWERS_OF_G[Math.floorMod(exponent, 255)];
    }

    static int inverse(int a) {
        return power(a, 254);
    }

    static int otherForm(int x) {
        int[] parts = {141, 239, 236, 134, 250, 153, 175, 123};
        int other = 0;
        for (int i = 0; i < 8; i++) {
            other ^= (x >> (7 - i) & 1) == 1 ? parts[i] : 0;
        }
        return other;
    }

    private static final int[] ELEMENTS = elements();

    private static int[] elements() {
        int[] elements = new int[256];
        for (int x = 0; x < 256; x++) {
            elements[otherForm(x)] = x;
        }
        return elements;
    }

    static int element(int other) {
        return ELEMENTS[other];
    }

    static int[] values(int[] word, int e) {
        int[] values = new int[2 * e];
        for (int s = 0; s < 2 * e; s++) {
            for (int i = 0; i < word.length; i++) {
                values[s] ^= times(element(word[i]), g((128 - e + s) * (word.length - 1 - i)));
            }
        }
        return values;
    }

    static boolean isCodeword(int[] word, int e) {
        return Arrays.stream(values(word, e)).allMatch(v -> v == 0);
    }

    static void addChecks(int[] word, int e) {
        addChecks(word, e, new int[2 * e]);
    }

    /** Check bytes that give the word such values at the powers of G, as unknowns: one equation for each. */
    static void addChecks(int[] word, int e, int[] due) {
        Arrays.fill(word, word.length - 2 * e, word.length, 0);
        int[] places = new int[2 * e];
        int[] values = values(word, e);
        for (int k = 0; k < 2 * e; k++) {
            places[k] = word.length - 2 * e + k;
            values[k] ^= due[k];
        }
        int[] checks = differences(word, places, values, e);
        for (int k = 0; k < 2 * e; k++) {
            word[places[k]] = otherForm(checks[k]);
        }
    }

    /** What must be added at so many places to make the first so many values 0; null if nothing fits. */
    private static int[] differences(int[] word, int[] places, int[] values, int e) {
        int n = places.length;
        int[][] rows = new int[n][n + 1];
        for (int s = 0; s < n; s++) {
            for (int k = 0; k < n; k++) {
                rows[s][k] = g((128 - e + s) * (word.length - 1 - places[k]));
            }
            rows[s][n] = values[s];
        }
        return solve(rows);
    }

    private static int[] solve(int[][] rows) {
        int n = rows.length;
        for (int c = 0; c < n; c++) {
            int lead = c;
            while (lead < n && rows[lead][c] == 0) {
                lead++;
            }
            if (lead == n) {
                return null;
            }
            int[] swapped = rows[c];
            rows[c] = rows[lead];
            rows[lead] = swapped;
            int factor = inverse(rows[c][c]);
            for (int k = 0; k <= n; k++) {
                rows[c][k] = times(rows[c][k], factor);
            }
            for (int r = 0; r < n; r++) {
                int off = rows[r][c];
                for (int k = 0; k <= n && r != c && off != 0; k++) {
                    rows[r][k] ^= times(off, rows[c][k]);
                }
            }
        }
        int[] answer = new int[n];
        for (int r = 0; r < n; r++) {
            answer[r] = rows[r][n];
        }
        return answer;
    }

    /** Tries every number of wrong places, after Peterson; what it finds is held against the definition. */
    static int putRight(int[] word, int e) {
        int[] values = values(word, e);
        if (isCodeword(word, e)) {
            return 0;
        }
        for (int v = 1; v <= e; v++) {
            int[] fixed = withWrong(word, values, e, v);
            if (fixed != null && isCodeword(fixed, e)) {
                int count = 0;
                for (int i = 0; i < word.length; i++) {
                    count += word[i] != fixed[i] ? 1 : 0;
                }
                System.arraycopy(fixed, 0, word, 0, word.length);
                return count;
            }
        }
        return NONE;
    }

    private static int[] withWrong(int[] word, int[] values, int e, int v) {
        int[][] rows = new int[v][v + 1];
        for (int r = 0; r < v; r++) {
            System.arraycopy(values, r, rows[r], 0, v + 1);
        }
        int[] locator = solve(rows);
        if (locator == null) {
            return null;
        }
        int[] places = new int[v];
        int found = 0;
        for (int i = 0; i < word.length; i++) {
            int exponent = word.length - 1 - i;
            int value = g(exponent * v);
            for (int k = 0; k < v; k++) {
                value ^= times(locator[k], g(exponent * k));
            }
            if (value == 0 && found < v) {
                places[found++] = i;
            }
        }
        int[] wrong = found == v ? differences(word, places, values, e) : null;
        if (wrong == null) {
            return null;
        }
        int[] fixed = word.clone();
        for (int k = 0; k < v; k++) {
            fixed[places[k]] = otherForm(element(fixed[places[k]]) ^ wrong[k]);
        }
        return fixed;
    }

    // ---- small helps

    static String binary(int value, int digits) {
        StringBuilder row = new StringBuilder();
        for (int b = digits - 1; b >= 0; b--) {
            row.append(value >> b & 1);
        }
        return row.toString();
    }

    private static void flip(StringBuilder row, int i) {
        row.setCharAt(i, row.charAt(i) == '1' ? '0' : '1');
    }

    private static void require(boolean condition) {
        if (!condition) {
            throw new IllegalArgumentException();
        }
    }
}
