import java.util.Arrays;

/**
 * A channel for frames from far away, sender and receiver.
 *
 * <p>All rows are made once, with the object, and used again by every call: a run of calls
 * makes nothing new.
 */
public final class DeepChannel {
    public static final int NONE = -1;

    private static final int LINE_BITS = 4096;
    private static final int CHANNELS = 8;
    private static final int CRAFTS = 1024;
    private static final int WORDS_MOST = 8;
    private static final int BLOCK_BYTES_MOST = 250;
    private static final int CHECKS_MOST = 32;
    private static final int MARK = 449838109;
    private static final int MARK_BITS = 32;
    private static final int LIMIT_MOST = 8;
    private static final int HEADER_BYTES = 6;
    private static final int FRAME_CHECK_BYTES = 2;

    private final Shape shape;
    private final Words words;
    private final Mixer mixer;
    private final BitRow row;
    private final Coder coder;
    private final Sender sender;
    private final Receiver receiver;

    public DeepChannel() {
        shape = new Shape();
        words = new Words(shape, new Field());
        mixer = new Mixer();
        row = new BitRow();
        coder = new Coder(shape, row);
        sender = new Sender(shape, words, mixer);
        receiver = new Receiver(shape, words, mixer);
    }

    public void form(int depth, int fill, int e, int pattern) throws IllegalArgumentException {
        if (!Shape.exists(depth, fill, e, pattern)) {
            throw new IllegalArgumentException("there is no such form");
        }
        shape.become(depth, fill, e, pattern);
        words.prepare();
        row.empty();
        coder.restart();
        sender.restart();
        receiver.forget();
    }

    public int craft(int craft) throws IllegalArgumentException {
        if (craft < 0 || craft >= CRAFTS) {
            throw new IllegalArgumentException("a craft is 0 .. 1023");
        }
        return sender.exchangeCraft(craft);
    }

    public int told(int what) throws IllegalArgumentException {
        switch (what) {
            case 0:
                return shape.frameBytes();
            case 1:
                return shape.dataBytes();
            case 2:
                return shape.blockBytes();
            case 3:
                return row.size();
            case 4:
                return sender.waiting();
            case 5:
                return receiver.bitsDecoded();
            case 6:
                return receiver.bitsDiffering();
            case 7:
                return receiver.blocksTaken();
            default:
                throw new IllegalArgumentException("what is 0 .. 7");
        }
    }

    public int data(int n, long bytes) throws IllegalArgumentException {
        if (n < 1 || n > 8) {
            throw new IllegalArgumentException("n is 1 .. 8");
        }
        return sender.addData(n, bytes) ? sender.waiting() : NONE;
    }

    public int send(int channel) throws IllegalArgumentException, IllegalStateException {
        if (!isChannel(channel)) {
            throw new IllegalArgumentException("a channel is 0 .. 7");
        }
        if (sender.waiting() != shape.dataBytes()) {
            throw new IllegalStateException("a frame needs all its data");
        }
        if (!coder.hasRoomFor(MARK_BITS + 8 * shape.blockBytes())) {
            return NONE;
        }
        sender.sendFrame(channel, coder);
        return row.size();
    }

    public int plain(int n, long bits) throws IllegalArgumentException {
        if (n < 1 || n > 64) {
            throw new IllegalArgumentException("n is 1 .. 64");
        }
        if (!coder.hasRoomFor(n)) {
            return NONE;
        }
        for (int i = 0; i < n; i++) {
            coder.putBit((int) (bits >>> i) & 1);
        }
        return row.size();
    }

    public void skip(int channel) throws IllegalArgumentException {
        if (!isChannel(channel)) {
            throw new IllegalArgumentException("a channel is 0 .. 7");
        }
        sender.countFrame(channel);
    }

    public int turn(int i, long bits) {
        return row.flip(i, bits);
    }

    public long line(int i) {
        return row.window(i);
    }

    public int receive(int limit) throws IllegalArgumentException {
        if (limit < 0 || limit > LIMIT_MOST) {
            throw new IllegalArgumentException("a limit is 0 .. 8");
        }
        receiver.decodeRow(row, coder.bitsPut());
        receiver.findBlocks(limit);
        receiver.readBlocks();
        return receiver.blocksTaken();
    }

    public long decoded(int i) {
        return receiver.decodedWindow(i);
    }

    public int block(int k, int what) throws IllegalArgumentException, IndexOutOfBoundsException {
        if (what < 0 || what >= Receiver.FACTS) {
            throw new IllegalArgumentException("what is 0 .. 8");
        }
        if (!receiver.hasTaken(k)) {
            throw new IndexOutOfBoundsException("there is no such block");
        }
        return receiver.fact(k, what);
    }

    public int word(int k, int j) throws IndexOutOfBoundsException {
        if (!receiver.hasTaken(k)) {
            throw new IndexOutOfBoundsException("there is no such block");
        }
        return receiver.bytesPutRight(k, j);
    }

    public long frame(int k, int i) throws IndexOutOfBoundsException {
        if (!receiver.hasTaken(k)) {
            throw new IndexOutOfBoundsException("there is no such block");
        }
        return receiver.frameWindow(k, i);
    }

    private static boolean isChannel(int channel) {
        return channel >= 0 && channel < CHANNELS;
    }

    /** Windows have their first bit lowest, marks and bytes are sent from the highest one on. */
    private static int mirrored(long bits, int count) {
        int mirror = 0;
        for (int b = 0; b < count; b++) {
            mirror = mirror << 1 | (int) (bits >>> b) & 1;
        }
        return mirror;
    }

    private static int checkOf(int[] bytes, int from, int count) {
        int check = 65535;
        for (int i = from; i < from + count && i < bytes.length; i++) {
            for (int b = 7; b >= 0; b--) {
                int out = (check >> 15) ^ ((bytes[i] >> b) & 1);
                check = ((check << 1) & 65535) ^ (out * 4129);
            }
        }
        return check;
    }

    /** The form: how words, frames and blocks are laid out. */
    private static final class Shape {
        private int depth = 1;
        private int wordBytes = 55;
        private int e = 8;
        private int pattern = 0;

        static boolean exists(int depth, int fill, int e, int pattern) {
            boolean depthFits = (depth >= 1 && depth <= 5) || depth == WORDS_MOST;
            boolean fillFits = fill >= 0 && fill <= 250;
            boolean eFits = e == 8 || e == 16;
            if (!depthFits || !fillFits || !eFits || pattern < 0 || pattern > 4) {
                return false;
            }
            int wordBytes = 255 - fill;
            return wordBytes > 2 * e
                    && depth * (wordBytes - 2 * e) > HEADER_BYTES + FRAME_CHECK_BYTES
                    && depth * wordBytes <= BLOCK_BYTES_MOST;
        }

        void become(int newDepth, int fill, int newE, int newPattern) {
            depth = newDepth;
            wordBytes = 255 - fill;
            e = newE;
            pattern = newPattern;
        }

        int blockBytes() {
            return depth * wordBytes;
        }

        int frameBytes() {
            return depth * (wordBytes - 2 * e);
        }

        int dataBytes() {
            return frameBytes() - HEADER_BYTES - FRAME_CHECK_BYTES;
        }
    }

    /** The field of 256 elements, by the powers of G. */
    private static final class Field {
        private static final int ORDER = 255;
        private static final int MODULUS = 0b1_1000_0111;
        private static final int G = 173;
        private static final int[] OTHER_FORM_OF_BIT = {123, 175, 153, 250, 134, 236, 239, 141};

        private final int[] powers = new int[ORDER];
        private final int[] logs = new int[256];
        private final int[] otherForms = new int[256];
        private final int[] elements = new int[256];

        Field() {
            int power = 1;
            for (int i = 0; i < ORDER; i++) {
                powers[i] = power;
                logs[power & 255] = i;
                power = timesG(power);
            }
            for (int x = 0; x < 256; x++) {
                int other = 0;
                for (int b = 0; b < 8; b++) {
                    other ^= ((x >> b) & 1) * OTHER_FORM_OF_BIT[b];
                }
                otherForms[x] = other;
                elements[other & 255] = x;
            }
        }

        private static int timesG(int a) {
            int product = 0;
            for (int b = 7; b >= 0; b--) {
                product <<= 1;
                product ^= (product >> 8) * MODULUS;
                product ^= ((G >> b) & 1) * a;
            }
            return product;
        }

        int powerOfG(int exponent) {
            int least = exponent % ORDER;
            return powers[least < 0 ? least + ORDER : least];
        }

        int product(int a, int b) {
            if (a == 0 || b == 0) {
                return 0;
            }
            return powers[(logs[a & 255] + logs[b & 255]) % ORDER];
        }

        /** The divisor is never 0 where this is used; 0 stands in for what can't be. */
        int quotient(int a, int divisor) {
            if (a == 0 || divisor == 0) {
                return 0;
            }
            return powers[(logs[a & 255] + ORDER - logs[divisor & 255]) % ORDER];
        }

        int otherForm(int element) {
            return otherForms[element & 255];
        }

        int element(int other) {
            return elements[other & 255];
        }
    }

    /** Check bytes for the words of a block, and words put right. */
    private static final class Words {
        private final Shape shape;
        private final Field field;
        private final int[] generator = new int[CHECKS_MOST + 1];
        private final int[] remainder = new int[CHECKS_MOST];
        private final int[] coefficients = new int[BLOCK_BYTES_MOST];
        private final int[] syndromes = new int[CHECKS_MOST];
        private final Locator locator;

        Words(Shape shape, Field field) {
            this.shape = shape;
            this.field = field;
            locator = new Locator(field);
            prepare();
        }

        /** The product of x - G^j over all j at which a codeword is 0, lowest power first. */
        void prepare() {
            int checks = 2 * shape.e;
            Arrays.fill(generator, 0);
            generator[0] = 1;
            for (int i = 0; i < checks; i++) {
                int root = field.powerOfG(128 - shape.e + i);
                for (int k = i + 1; k > 0; k--) {
                    generator[k] = generator[k - 1] ^ field.product(generator[k], root);
                }
                generator[0] = field.product(generator[0], root);
            }
        }

        void addChecks(int[] bytes) {
            for (int j = 0; j < shape.depth; j++) {
                addChecksOfWord(bytes, j);
            }
        }

        /** The check bytes are what is left when the others, put above them, are divided. */
        private void addChecksOfWord(int[] bytes, int j) {
            int checks = 2 * shape.e;
            int others = shape.wordBytes - checks;
            Arrays.fill(remainder, 0);
            for (int i = 0; i < others; i++) {
                int lead = remainder[checks - 1] ^ field.element(bytes[i * shape.depth + j]);
                for (int k = checks - 1; k > 0; k--) {
                    remainder[k] = remainder[k - 1] ^ field.product(lead, generator[k]);
                }
                remainder[0] = field.product(lead, generator[0]);
            }
            for (int k = 0; k < checks; k++) {
                int place = (others + k) * shape.depth + j;
                bytes[place] = field.otherForm(remainder[checks - 1 - k]);
            }
        }

        /** Answers how many bytes of word j, of the block from a place on, were wrong, or NONE. */
        int putRight(int[] bytes, int from, int j) {
            for (int i = 0; i < shape.wordBytes; i++) {
                coefficients[i] = field.element(bytes[from + i * shape.depth + j]);
            }
            if (isCodeword()) {
                return 0;
            }
            int wrong = locator.findRecurrence(syndromes, 2 * shape.e);
            if (wrong > shape.e || !locator.findPlaces(wrong, shape.wordBytes)) {
                return NONE;
            }
            locator.findEvaluator(syndromes, wrong);
            for (int i = 0; i < wrong; i++) {
                int place = locator.placeAt(i);
                int power = shape.wordBytes - 1 - place;
                int right = coefficients[place] ^ locator.differenceAt(power, shape.e, wrong);
                bytes[from + place * shape.depth + j] = field.otherForm(right);
            }
            return wrong;
        }

        private boolean isCodeword() {
            int any = 0;
            for (int s = 0; s < 2 * shape.e; s++) {
                int at = field.powerOfG(128 - shape.e + s);
                int value = 0;
                for (int i = 0; i < shape.wordBytes; i++) {
                    value = field.product(value, at) ^ coefficients[i];
                }
                syndromes[s] = value;
                any |= value;
            }
            return any == 0;
        }
    }

    /**
     * Finds the wrong places of a word from its values at the powers of G where a codeword is 0:
     * the shortest recurrence of these values (after Berlekamp and Massey) tells the places,
     * and the values themselves (after Forney) what is wrong there.
     */
    private static final class Locator {
        private final Field field;
        private final int[] poly = new int[CHECKS_MOST + 1];
        private final int[] earlier = new int[CHECKS_MOST + 1];
        private final int[] spare = new int[CHECKS_MOST + 1];
        private final int[] evaluator = new int[CHECKS_MOST + 1];
        private final int[] places = new int[CHECKS_MOST];

        Locator(Field field) {
            this.field = field;
        }

        int placeAt(int i) {
            return places[i];
        }

        /** How many places are wrong, if a codeword is near enough. */
        int findRecurrence(int[] syndromes, int checks) {
            Arrays.fill(poly, 0);
            Arrays.fill(earlier, 0);
            poly[0] = 1;
            earlier[0] = 1;
            int length = 0;
            int shift = 1;
            int earlierMiss = 1;
            for (int n = 0; n < checks; n++) {
                int miss = missAt(syndromes, n, length);
                boolean grows = miss != 0 && 2 * length <= n;
                if (grows) {
                    System.arraycopy(poly, 0, spare, 0, poly.length);
                }
                addEarlier(field.quotient(miss, earlierMiss), shift);
                shift++;
                if (grows) {
                    System.arraycopy(spare, 0, earlier, 0, spare.length);
                    length = n + 1 - length;
                    earlierMiss = miss;
                    shift = 1;
                }
            }
            return length;
        }

        private int missAt(int[] syndromes, int n, int length) {
            int miss = 0;
            for (int i = 0; i <= length && i <= n; i++) {
                miss ^= field.product(poly[i], syndromes[n - i]);
            }
            return miss;
        }

        private void addEarlier(int factor, int shift) {
            for (int i = 0; i + shift < poly.length; i++) {
                poly[i + shift] ^= field.product(factor, earlier[i]);
            }
        }

        /** All places must lie in the word itself: the fill is not sent, so can't be spoiled. */
        boolean findPlaces(int count, int wordBytes) {
            int found = 0;
            for (int i = 0; i < wordBytes; i++) {
                if (valueAt(poly, count, -(wordBytes - 1 - i)) == 0) {
                    if (found == count) {
                        return false;
                    }
                    places[found] = i;
                    found++;
                }
            }
            return found == count;
        }

        private int valueAt(int[] polynomial, int degree, int exponent) {
            int at = field.powerOfG(exponent);
            int value = 0;
            for (int i = degree; i >= 0; i--) {
                value = field.product(value, at) ^ polynomial[i];
            }
            return value;
        }

        void findEvaluator(int[] syndromes, int count) {
            for (int n = 0; n < count; n++) {
                evaluator[n] = missAt(syndromes, n, count);
            }
        }

        int differenceAt(int power, int e, int count) {
            int slope = 0;
            for (int i = 1; i <= count; i += 2) {
                slope ^= field.product(poly[i], field.powerOfG(-power * (i - 1)));
            }
            int value = field.quotient(valueAt(evaluator, count - 1, -power), slope);
            return field.product(value, field.powerOfG(power * (1 - (128 - e))));
        }
    }

    /** The fixed row of bytes that a block is mixed with. */
    private static final class Mixer {
        /** Eight, five, three places and one place before, the last bit being the lowest. */
        private static final int TAPS = 0b1001_0101;

        private final int[] bytes = new int[BLOCK_BYTES_MOST];

        Mixer() {
            int past = 255;
            for (int t = 0; t < BLOCK_BYTES_MOST; t++) {
                bytes[t] = past;
                for (int b = 0; b < 8; b++) {
                    past = (past << 1) & 255 | Integer.bitCount(past & TAPS) & 1;
                }
            }
        }

        int at(int t) {
            return t >= 0 && t < BLOCK_BYTES_MOST ? bytes[t] : 0;
        }
    }

    /** A row of bits; what is behind its end is kept 0, so that windows need not look for it. */
    private static final class BitRow {
        private final long[] cells = new long[LINE_BITS / 64];
        private int length = 0;

        int size() {
            return length;
        }

        void empty() {
            Arrays.fill(cells, 0);
            length = 0;
        }

        void append(int bit) {
            if (length < LINE_BITS) {
                cells[length >> 6] |= (long) bit << (length & 63);
                length++;
            }
        }

        private long cellAt(int c) {
            return c >= 0 && c < cells.length ? cells[c] : 0;
        }

        int bitAt(int place) {
            return (int) (cellAt(place >> 6) >>> (place & 63)) & 1;
        }

        long window(int from) {
            int cell = from >> 6;
            int shift = from & 63;
            long low = cellAt(cell) >>> shift;
            return shift == 0 ? low : low | cellAt(cell + 1) << (64 - shift);
        }

        int flip(int from, long bits) {
            int flipped = 0;
            for (int b = 0; b < 64; b++) {
                // An int would go round behind its greatest value and come back below 0.
                long place = (long) from + b;
                if (((bits >>> b) & 1) != 0 && place >= 0 && place < length) {
                    cells[(int) (place >> 6)] ^= 1L << (place & 63);
                    flipped++;
                }
            }
            return flipped;
        }
    }

    /** The code: which bits of the line a sent bit makes. */
    private static final class Coder {
        private static final int FIRST_TAPS = 121;
        private static final int SECOND_TAPS = 91;
        private static final int[] PERIODS = {1, 2, 3, 5, 7};
        private static final int[] FIRST_KEPT = {0b1, 0b10, 0b101, 0b10101, 0b1000101};
        private static final int[] SECOND_KEPT = {0b1, 0b11, 0b110, 0b11010, 0b1111010};

        private final Shape shape;
        private final BitRow row;
        private int register = 0;
        private int put = 0;

        Coder(Shape shape, BitRow row) {
            this.shape = shape;
            this.row = row;
        }

        void restart() {
            register = 0;
            put = 0;
        }

        /** All that the line can hold of: every pattern keeps at least one bit of each pair. */
        int bitsPut() {
            return put;
        }

        /** The first bit of the pair is the lower one. */
        static int pairOf(int register) {
            int first = Integer.bitCount(register & FIRST_TAPS) & 1;
            int second = 1 - (Integer.bitCount(register & SECOND_TAPS) & 1);
            return first | second << 1;
        }

        /** What is kept is 1 in the same places as in the pair, so that both go together by and. */
        static int keptAt(int pattern, int place) {
            int shift = PERIODS[pattern] - 1 - place % PERIODS[pattern];
            return (FIRST_KEPT[pattern] >> shift) & 1 | ((SECOND_KEPT[pattern] >> shift) & 1) << 1;
        }

        boolean hasRoomFor(int bits) {
            int made = row.size();
            for (int i = 0; i < bits; i++) {
                made += Integer.bitCount(keptAt(shape.pattern, put + i));
            }
            return made <= LINE_BITS;
        }

        void putBit(int bit) {
            register = register >> 1 | bit << 6;
            int pair = pairOf(register);
            int kept = keptAt(shape.pattern, put);
            if ((kept & 1) != 0) {
                row.append(pair & 1);
            }
            if ((kept & 2) != 0) {
                row.append(pair >> 1);
            }
            put++;
        }

        void putBits(int bits, int count) {
            for (int b = count - 1; b >= 0; b--) {
                putBit((bits >>> b) & 1);
            }
        }
    }

    /** Frames with their counts, laid into blocks and sent. */
    private static final class Sender {
        private final Shape shape;
        private final Words words;
        private final Mixer mixer;
        private final int[] bytes = new int[BLOCK_BYTES_MOST];
        private final int[] channelCounts = new int[CHANNELS];
        private int masterCount = 0;
        private int craft = 0;
        private int dataCount = 0;

        Sender(Shape shape, Words words, Mixer mixer) {
            this.shape = shape;
            this.words = words;
            this.mixer = mixer;
        }

        /** The craft stays: a new form leaves it alone. */
        void restart() {
            dataCount = 0;
            masterCount = 0;
            Arrays.fill(channelCounts, 0);
        }

        int exchangeCraft(int newCraft) {
            int old = craft;
            craft = newCraft;
            return old;
        }

        int waiting() {
            return dataCount;
        }

        boolean addData(int n, long values) {
            if (dataCount + n > shape.dataBytes()) {
                return false;
            }
            for (int i = 0; i < n; i++) {
                bytes[HEADER_BYTES + dataCount + i] = (int) (values >>> (8 * i)) & 255;
            }
            dataCount += n;
            return true;
        }

        void sendFrame(int channel, Coder coder) {
            fillHeader(channel);
            int checked = shape.frameBytes() - FRAME_CHECK_BYTES;
            int check = checkOf(bytes, 0, checked);
            bytes[checked] = check >> 8;
            bytes[checked + 1] = check & 255;
            words.addChecks(bytes);
            coder.putBits(MARK, MARK_BITS);
            for (int t = 0; t < shape.blockBytes(); t++) {
                coder.putBits(bytes[t] ^ mixer.at(t), 8);
            }
            countFrame(channel);
            dataCount = 0;
        }

        private void fillHeader(int channel) {
            int name = craft * 16 + channel * 2;
            bytes[0] = name >> 8;
            bytes[1] = name & 255;
            bytes[2] = masterCount;
            bytes[3] = channelCounts[channel];
            bytes[4] = 24;
            bytes[5] = 0;
        }

        void countFrame(int channel) {
            masterCount = (masterCount + 1) & 255;
            channelCounts[channel] = (channelCounts[channel] + 1) & 255;
        }
    }

    /**
     * Finds the decoded row. It works from the end of the line to its beginning: what the rest of
     * the line costs at least is then known before a bit is chosen, so the first row in order
     * among the nearest ones comes out by choosing 0 wherever 1 is not better.
     */
    private static final class Nearest {
        /** Registers without their lowest bit, which is gone when the next bit comes. */
        private static final int STATES = 64;

        private final int[] pairs = new int[STATES];
        private final int[] distances = new int[4];
        private final int[] evenRow = new int[STATES];
        private final int[] oddRow = new int[STATES];
        private final long[] oneIsBetter = new long[LINE_BITS];

        Nearest() {
            for (int s = 0; s < STATES; s++) {
                pairs[s] = Coder.pairOf(s);
            }
        }

        /** Answers at how many places what the decoded row makes differs from the line. */
        int decode(BitRow line, int pattern, int count, BitRow found) {
            int[] later = evenRow;
            int[] now = oddRow;
            Arrays.fill(later, 0);
            int place = line.size();
            for (int t = count - 1; t >= 0; t--) {
                int kept = Coder.keptAt(pattern, t);
                place -= Integer.bitCount(kept);
                measure(line, place, kept);
                oneIsBetter[t] = stepBack(later, now);
                int[] free = later;
                later = now;
                now = free;
            }
            trace(count, found);
            return later[0];
        }

        private void measure(BitRow line, int place, int kept) {
            int first = line.bitAt(place);
            int second = line.bitAt(place + (kept & 1));
            for (int pair = 0; pair < 4; pair++) {
                distances[pair] = Integer.bitCount((pair ^ (first | second << 1)) & kept);
            }
        }

        /**
         * Both taps have the highest and the lowest bit of the register, so that turning either
         * of these turns both bits of the pair: four ways share two distances.
         */
        private long stepBack(int[] later, int[] now) {
            long better = 0;
            for (int half = 0; half < STATES / 2; half++) {
                int near = distances[pairs[2 * half]];
                int far = distances[pairs[2 * half] ^ 3];
                int zero = later[half];
                int one = later[half + STATES / 2];
                now[2 * half] = Math.min(zero + near, one + far);
                now[2 * half + 1] = Math.min(zero + far, one + near);
                if (one + far < zero + near) {
                    better |= 1L << (2 * half);
                }
                if (one + near < zero + far) {
                    better |= 2L << (2 * half);
                }
            }
            return better;
        }

        private void trace(int count, BitRow found) {
            found.empty();
            int state = 0;
            for (int t = 0; t < count; t++) {
                int bit = (int) (oneIsBetter[t] >>> state) & 1;
                found.append(bit);
                state = state >> 1 | bit << 5;
            }
        }
    }

    /** What was received last: the decoded row, and the blocks taken from it. */
    private static final class Receiver {
        private static final int PLACE = 0;
        private static final int MARK_WRONG = 1;
        private static final int LOST = 2;
        private static final int PUT_RIGHT = 3;
        private static final int GOOD = 4;
        private static final int CRAFT = 5;
        private static final int CHANNEL = 6;
        private static final int MASTER_GAP = 7;
        private static final int CHANNEL_GAP = 8;
        private static final int FACTS = 9;

        /** The smallest block has 25 bytes, and the line at most 3584 sent bits: 15 blocks. */
        private static final int BLOCKS_MOST = 16;

        private final Shape shape;
        private final Words words;
        private final Mixer mixer;
        private final Nearest nearest = new Nearest();
        private final BitRow found = new BitRow();
        private final int[] bytes = new int[LINE_BITS / 8];
        private final int[] facts = new int[BLOCKS_MOST * FACTS];
        private final int[] putRight = new int[BLOCKS_MOST * WORDS_MOST];
        private final int[] lastOfChannel = new int[CHANNELS];
        private int lastMaster = NONE;
        private int differing = 0;
        private int taken = 0;

        Receiver(Shape shape, Words words, Mixer mixer) {
            this.shape = shape;
            this.words = words;
            this.mixer = mixer;
        }

        void forget() {
            found.empty();
            differing = 0;
            taken = 0;
        }

        int bitsDecoded() {
            return found.size();
        }

        int bitsDiffering() {
            return differing;
        }

        int blocksTaken() {
            return taken;
        }

        boolean hasTaken(int k) {
            return k >= 0 && k < taken;
        }

        long decodedWindow(int from) {
            return found.window(from);
        }

        int fact(int k, int what) {
            return facts[k * FACTS + what];
        }

        int bytesPutRight(int k, int j) {
            return j >= 0 && j < shape.depth ? putRight[k * WORDS_MOST + j] : NONE;
        }

        long frameWindow(int k, int from) {
            long window = 0;
            for (int b = 0; b < 8; b++) {
                long i = (long) from + b;
                if (i >= 0 && i < shape.frameBytes()) {
                    window |= (long) bytes[k * shape.blockBytes() + (int) i] << (8 * b);
                }
            }
            return window;
        }

        void decodeRow(BitRow line, int count) {
            differing = nearest.decode(line, shape.pattern, count, found);
        }

        /** Where blocks are hangs on the marks alone, so that they are read afterwards. */
        void findBlocks(int limit) {
            int length = MARK_BITS + 8 * shape.blockBytes();
            int mark = mirrored(MARK, MARK_BITS);
            int expected = NONE;
            int p = 0;
            taken = 0;
            while (p + length <= found.size() && taken < BLOCKS_MOST) {
                int wrong = Integer.bitCount((int) found.window(p) ^ mark);
                if (wrong <= limit || p == expected) {
                    setFact(taken, PLACE, p + MARK_BITS);
                    setFact(taken, MARK_WRONG, wrong);
                    taken++;
                    p += length;
                    expected = wrong <= limit ? p : NONE;
                } else {
                    p++;
                }
            }
        }

        void readBlocks() {
            lastMaster = NONE;
            Arrays.fill(lastOfChannel, NONE);
            int start = 0;
            for (int k = 0; k < taken; k++) {
                unmix(fact(k, PLACE), start);
                putWordsRight(k, start);
                judgeFrame(k, start);
                start += shape.blockBytes();
            }
        }

        private void unmix(int place, int start) {
            for (int t = 0; t < shape.blockBytes(); t++) {
                bytes[start + t] = mirrored(found.window(place + 8 * t), 8) ^ mixer.at(t);
            }
        }

        private void setFact(int k, int what, int value) {
            facts[k * FACTS + what] = value;
        }

        private void putWordsRight(int k, int start) {
            int lost = 0;
            int sum = 0;
            for (int j = 0; j < shape.depth; j++) {
                int count = words.putRight(bytes, start, j);
                putRight[k * WORDS_MOST + j] = count;
                if (count == NONE) {
                    lost++;
                } else {
                    sum += count;
                }
            }
            setFact(k, LOST, lost);
            setFact(k, PUT_RIGHT, sum);
        }

        private void judgeFrame(int k, int start) {
            int checked = shape.frameBytes() - FRAME_CHECK_BYTES;
            int check = bytes[start + checked] << 8 | bytes[start + checked + 1];
            boolean good = fact(k, LOST) == 0 && checkOf(bytes, start, checked) == check;
            setFact(k, GOOD, good ? 1 : 0);
            if (good) {
                readHeader(k, start);
            } else {
                for (int what = CRAFT; what <= CHANNEL_GAP; what++) {
                    setFact(k, what, NONE);
                }
            }
        }

        private void readHeader(int k, int start) {
            int name = bytes[start] << 8 | bytes[start + 1];
            int channel = (name >> 1) & 7;
            int master = bytes[start + 2];
            int ofChannel = bytes[start + 3];
            setFact(k, CRAFT, (name >> 4) & 1023);
            setFact(k, CHANNEL, channel);
            setFact(k, MASTER_GAP, gap(lastMaster, master));
            setFact(k, CHANNEL_GAP, gap(lastOfChannel[channel], ofChannel));
            lastMaster = master;
            lastOfChannel[channel] = ofChannel;
        }

        private static int gap(int last, int count) {
            return last == NONE ? 0 : (count - last - 1) & 255;
        }
    }
}
