import java.util.Arrays;

/**
 * Each promise of the document by itself: what is ordinary, the edges it names, and wrong inputs.
 * Only blocks that send() would not make are taken from the model.
 */
public final class PromisesTest {
    private static final int NONE = -1;
    private static final Class<IllegalArgumentException> ARGUMENT = IllegalArgumentException.class;
    private static final Class<IllegalStateException> STATE = IllegalStateException.class;
    private static final Class<IndexOutOfBoundsException> INDEX = IndexOutOfBoundsException.class;

    /** The smallest block: 25 bytes, 9 of them the frame, with one byte of data. */
    private static final int[] SMALLEST = {1, 230, 8, 0};

    public static void main(String[] args) {
        newObject();
        form();
        formIsAllElseAsAtFirst();
        formRefusedChangesNothing();
        craft();
        told();
        toldStaysAsReceived();
        data();
        send();
        sendMakesTheBlock();
        sendCounts();
        sendFillsTheLine();
        sendGoesOnInTheCode();
        plain();
        plainPatterns();
        plainFillsTheLine();
        skip();
        turn();
        line();
        receiveFindsTheNearest();
        receiveTakesTheFirstInOrder();
        receiveMarks();
        receiveMissedMarks();
        receiveMostBlocks();
        decoded();
        block();
        blockGaps();
        blockCraftAndCheck();
        word();
        wordNearTheFill();
        wordWithNineWrong();
        wordLostInItsChecks();
        frame();
        Check.end();
    }

    // ---- helps

    private static DeepChannel made(int... form) {
        DeepChannel x = new DeepChannel();
        x.form(form[0], form[1], form[2], form[3]);
        return x;
    }

    private static Model modelOf(int... form) {
        Model m = new Model();
        m.form(form[0], form[1], form[2], form[3]);
        return m;
    }

    private static void fillData(DeepChannel x, long bytes) {
        for (int left = x.told(1) - x.told(4); left > 0; left = x.told(1) - x.told(4)) {
            x.data(Math.min(left, 8), bytes);
        }
    }

    private static int sendFrame(DeepChannel x, int channel) {
        fillData(x, 0x0123456789ABCDEFL);
        return x.send(channel);
    }

    private static void plainBits(DeepChannel x, String bits) {
        for (int i = 0; i < bits.length(); i += 64) {
            String part = bits.substring(i, Math.min(i + 64, bits.length()));
            x.plain(part.length(), Long.parseUnsignedLong(new StringBuilder(part).reverse().toString(), 2));
        }
    }

    private static String lineBits(DeepChannel x) {
        StringBuilder row = new StringBuilder();
        for (int i = 0; i < x.told(3); i++) {
            row.append(x.line(i) & 1);
        }
        return row.toString();
    }

    private static String decodedBits(DeepChannel x) {
        StringBuilder row = new StringBuilder();
        for (int i = 0; i < x.told(5); i++) {
            row.append(x.decoded(i) & 1);
        }
        return row.toString();
    }

    private static void nothingReceived(String title, DeepChannel x) {
        for (int what = 5; what <= 7; what++) {
            Check.same(title + ": told(" + what + ")", x.told(what), 0);
        }
        Check.same(title + ": decoded(0)", x.decoded(0), 0);
        Check.refused(title + ": block(0, 0)", () -> x.block(0, 0), INDEX);
        Check.refused(title + ": word(0, 0)", () -> x.word(0, 0), INDEX);
        Check.refused(title + ": frame(0, 0)", () -> x.frame(0, 0), INDEX);
    }

    private static String markWith(int wrong) {
        return Model.binary(449838109 ^ ((1 << wrong) - 1), 32);
    }

    // ---- promise 1

    private static void newObject() {
        DeepChannel x = new DeepChannel();
        Check.same("new: NONE", DeepChannel.NONE, -1);
        int[] due = {39, 31, 55, 0, 0, 0, 0, 0};
        for (int what = 0; what < 8; what++) {
            Check.same("new: told(" + what + ")", x.told(what), due[what]);
        }
        Check.same("new: line(0)", x.line(0), 0);
        nothingReceived("new", x);
        Check.same("new: craft", x.craft(0), 0);
        Check.same("new: pattern 0, all bits kept", x.plain(3, 0), 6);
        Check.same("new: register 0", x.line(0), 0b101010);
        DeepChannel y = new DeepChannel();
        Check.same("new: send", sendFrame(y, 0), 2 * (32 + 8 * 55));
        y.receive(0);
        Check.same("new: counts 0", y.frame(0, 0) & 0xFFFFFFFFL, 0);
    }

    // ---- promise 2

    private static void form() {
        DeepChannel x = new DeepChannel();
        for (int depth = -1; depth <= 10; depth++) {
            for (int fill = -2; fill <= 256; fill++) {
                for (int e = 7; e <= 17; e++) {
                    formIsThere(x, depth, fill, e, 2);
                }
            }
        }
        for (int pattern = -2; pattern <= 6; pattern++) {
            formIsThere(x, 1, 200, 8, pattern);
        }
        for (int far : new int[] {Integer.MIN_VALUE, Integer.MAX_VALUE, -65536, 65536, 1 << 30}) {
            formIsThere(x, far, 200, 8, 0);
            formIsThere(x, 1, far, 8, 0);
            formIsThere(x, 1, 200, far, 0);
            formIsThere(x, 1, 200, 8, far);
        }
        int[][] edges = {{1, 5, 8, 0}, {1, 5, 16, 4}, {1, 230, 8, 0}, {1, 214, 16, 0}, {2, 130, 8, 1},
            {8, 224, 8, 0}, {8, 237, 8, 0}, {5, 205, 16, 0}, {5, 237, 8, 3}};
        for (int[] edge : edges) {
            Check.same("form edge " + Arrays.toString(edge), Check.outcome(() -> made(edge).told(3)), "0");
        }
        int[][] behind = {{1, 4, 8, 0}, {1, 231, 8, 0}, {1, 215, 16, 0}, {2, 129, 8, 0}, {8, 223, 8, 0},
            {8, 239, 8, 0}, {5, 204, 8, 0}, {6, 220, 8, 0}, {7, 220, 8, 0}, {8, 222, 16, 0}, {1, 239, 8, 0}};
        for (int[] edge : behind) {
            Check.refused("form behind the edge " + Arrays.toString(edge), () -> made(edge).told(3), ARGUMENT);
        }
    }

    private static void formIsThere(DeepChannel x, int depth, int fill, int e, int pattern) {
        boolean ranges = (depth >= 1 && depth <= 5 || depth == 8) && fill >= 0 && fill <= 250
                && (e == 8 || e == 16) && pattern >= 0 && pattern <= 4;
        int size = 255 - fill;
        boolean there = ranges && size > 2 * e && depth * (size - 2 * e) >= 9 && depth * size <= 250;
        String name = "form(" + depth + ", " + fill + ", " + e + ", " + pattern + ")";
        String got = Check.outcome(() -> {
            x.form(depth, fill, e, pattern);
            return 0;
        });
        Check.same(name, got, there ? "0" : "throws.IllegalArgumentException");
        if (there) {
            Check.same(name + " frame", x.told(0), depth * (size - 2 * e));
            Check.same(name + " data", x.told(1), depth * (size - 2 * e) - 8);
            Check.same(name + " block", x.told(2), depth * size);
        }
    }

    private static void formIsAllElseAsAtFirst() {
        DeepChannel x = new DeepChannel();
        x.craft(77);
        x.plain(5, 21);
        sendFrame(x, 3);
        x.skip(3);
        x.data(3, 1);
        x.turn(200, 1);
        x.receive(0);
        Check.same("form: a block before", x.told(7), 1);
        Check.same("form: a wrong bit before", x.told(6), 1);
        x.form(2, 220, 8, 1);
        for (int what = 3; what <= 7; what++) {
            Check.same("form: told(" + what + ") is 0 again", x.told(what), 0);
        }
        Check.same("form: line", x.line(0), 0);
        nothingReceived("form", x);
        DeepChannel fresh = made(2, 220, 8, 1);
        fresh.craft(77);
        sendFrame(x, 3);
        sendFrame(fresh, 3);
        Check.same("form: counts, register and places are 0 again", lineBits(x), lineBits(fresh));
        Check.same("form: the craft stays", x.craft(0), 77);
    }

    private static void formRefusedChangesNothing() {
        DeepChannel x = made(2, 220, 8, 3);
        x.plain(9, 300);
        x.skip(1);
        x.receive(2);
        x.data(2, 515);
        String before = lineBits(x);
        Check.refused("form refused", () -> {
            x.form(1, 200, 8, 5);
            return 0;
        }, ARGUMENT);
        Check.same("form refused: frame", x.told(0), 38);
        Check.same("form refused: data", x.told(4), 2);
        Check.same("form refused: decoded", x.told(5), 9);
        Check.same("form refused: line", lineBits(x), before);
    }

    // ---- promise 3

    private static void craft() {
        DeepChannel x = new DeepChannel();
        Check.same("craft: at first", x.craft(5), 0);
        Check.same("craft: then", x.craft(1023), 5);
        Check.same("craft: greatest", x.craft(0), 1023);
        Check.same("craft: least", x.craft(682), 0);
        for (int wrong : new int[] {-1, 1024, Integer.MIN_VALUE, Integer.MAX_VALUE}) {
            Check.refused("craft(" + wrong + ")", () -> x.craft(wrong), ARGUMENT);
        }
        Check.same("craft: refused ones change nothing", x.craft(682), 682);
        sendFrame(x, 5);
        x.receive(0);
        Check.same("craft: in the frame", x.frame(0, 0) & 0xFFFF, 682 * 16 / 256 + (682 * 16 % 256 + 10) * 256);
        Check.same("craft: received", x.block(0, 5), 682);
    }

    // ---- promise 4

    private static void told() {
        DeepChannel x = made(3, 200, 16, 2);
        Check.same("told: frame", x.told(0), 69);
        Check.same("told: data", x.told(1), 61);
        Check.same("told: block", x.told(2), 165);
        x.plain(7, 0);
        Check.same("told: line", x.told(3), 10);
        x.data(5, 0);
        Check.same("told: waiting", x.told(4), 5);
        x.receive(0);
        Check.same("told: decoded", x.told(5), 7);
        for (int wrong : new int[] {-1, 8, Integer.MIN_VALUE, Integer.MAX_VALUE}) {
            Check.refused("told(" + wrong + ")", () -> x.told(wrong), ARGUMENT);
        }
        DeepChannel y = new DeepChannel();
        sendFrame(y, 0);
        y.turn(10, 1);
        y.turn(500, 1);
        y.turn(700, 1);
        y.receive(0);
        Check.same("told: differing", y.told(6), 3);
        Check.same("told: taken", y.told(7), 1);
    }

    private static void toldStaysAsReceived() {
        DeepChannel x = made(1, 200, 8, 0);
        sendFrame(x, 4);
        x.turn(100, 1);
        x.receive(0);
        long frame = x.frame(0, 6);
        String bits = decodedBits(x);
        x.turn(0, -1);
        x.turn(64, -1);
        x.plain(64, 99);
        x.skip(2);
        sendFrame(x, 2);
        Check.refused("told stays: a receive refused", () -> x.receive(9), ARGUMENT);
        Check.same("told stays: line goes on", x.told(3), 2016);
        Check.same("told stays: decoded", x.told(5), 472);
        Check.same("told stays: differing", x.told(6), 1);
        Check.same("told stays: taken", x.told(7), 1);
        Check.same("told stays: decoded()", decodedBits(x), bits);
        Check.same("told stays: block()", x.block(0, 6), 4);
        Check.same("told stays: word()", x.word(0, 0), 0);
        Check.same("told stays: frame()", x.frame(0, 6), frame);
        Check.same("told: a receive anew", x.receive(8), 1);
        Check.same("told: differs then", x.told(5), 1008);
    }

    // ---- promise 5

    private static void data() {
        DeepChannel x = made(1, 200, 8, 0);
        for (int wrong : new int[] {0, 9, -1, Integer.MIN_VALUE, Integer.MAX_VALUE}) {
            Check.refused("data(" + wrong + ")", () -> x.data(wrong, 0), ARGUMENT);
        }
        Check.same("data: 1", x.data(1, 0xFFFFFFFFFFFFFF01L), 1);
        Check.same("data: 8", x.data(8, 0xF908070605040302L), 9);
        Check.same("data: 8 more", x.data(8, -1), 17);
        Check.same("data: 8 again", x.data(8, 0), 25);
        Check.same("data: too many", x.data(7, 1), NONE);
        Check.same("data: none of them came", x.told(4), 25);
        Check.same("data: the last ones", x.data(6, 0x665544332211L), 31);
        Check.same("data: one too many", x.data(1, 1), NONE);
        Check.refused("data: full, and n wrong", () -> x.data(9, 1), ARGUMENT);
        x.send(0);
        Check.same("data: none wait", x.told(4), 0);
        x.receive(0);
        Check.same("data: bytes, the lowest first", x.frame(0, 6), 0x0807060504030201L);
        Check.same("data: behind these", x.frame(0, 14), 0xFFFFFFFFFFFFFFF9L);
        Check.same("data: the last ones", x.frame(0, 31) & 0xFFFFFFFFFFFFL, 0x665544332211L);
    }

    // ---- promise 6

    private static void send() {
        DeepChannel x = new DeepChannel();
        for (int wrong : new int[] {-1, 8, Integer.MIN_VALUE, Integer.MAX_VALUE}) {
            Check.refused("send(" + wrong + ")", () -> x.send(wrong), ARGUMENT);
        }
        Check.refused("send without data", () -> x.send(0), STATE);
        x.data(8, 1);
        Check.refused("send with few data", () -> x.send(0), STATE);
        Check.same("send refused: data stay", x.told(4), 8);
        Check.same("send refused: line stays", x.told(3), 0);
        fillData(x, 2);
        Check.refused("send(8) with all data", () -> x.send(8), ARGUMENT);
        Check.same("send", x.send(7), 944);
        Check.refused("send: then there are no data", () -> x.send(7), STATE);
    }

    private static void sendMakesTheBlock() {
        int[][] forms = {{1, 200, 8, 0}, {2, 190, 16, 1}, {3, 215, 8, 2}, {4, 215, 16, 3}, {5, 230, 8, 4},
            {8, 225, 8, 4}, {1, 5, 16, 3}, {1, 230, 8, 0}};
        for (int[] form : forms) {
            DeepChannel x = made(form);
            Model m = modelOf(form);
            String name = "send " + Arrays.toString(form);
            x.craft(937);
            m.craft(937);
            for (int left = x.told(1); left > 0; left -= Math.min(left, 8)) {
                x.data(Math.min(left, 8), 0xD1B54A32D192ED03L * left);
                m.data(Math.min(left, 8), 0xD1B54A32D192ED03L * left);
            }
            Check.same(name, x.send(6), m.send(6));
            Check.same(name + " line", lineBits(x), m.line.toString());
            x.receive(0);
            Check.same(name + " is received", x.block(0, 4), 1);
            Check.same(name + " bytes 4, 5", x.frame(0, 4) & 0xFFFF, 24);
        }
        sendMixes();
    }

    /** The mixer begins with the bytes 255, 72, 14, 192, 154, 13, 112, 188 behind the mark. */
    private static void sendMixes() {
        DeepChannel x = new DeepChannel();
        fillData(x, 0);
        x.send(0);
        x.receive(0);
        String due = Model.MARK;
        int[] frame = {0, 0, 0, 0, 24, 0, 0, 0};
        int[] mixer = {255, 72, 14, 192, 154, 13, 112, 188};
        for (int t = 0; t < 8; t++) {
            due += Model.binary(frame[t] ^ mixer[t], 8);
        }
        Check.same("send: mark and mixer", decodedBits(x).substring(0, 96), due);
    }

    private static void sendCounts() {
        DeepChannel x = made(SMALLEST);
        for (int i = 0; i < 254; i++) {
            x.skip(3);
        }
        sendFrame(x, 3);
        sendFrame(x, 5);
        sendFrame(x, 3);
        sendFrame(x, 3);
        x.receive(0);
        int[] masters = {254, 255, 0, 1};
        int[] channels = {254, 0, 255, 0};
        for (int k = 0; k < 4; k++) {
            Check.same("send: master count " + k, x.frame(k, 2) & 255, masters[k]);
            Check.same("send: channel count " + k, x.frame(k, 3) & 255, channels[k]);
        }
    }

    private static void sendFillsTheLine() {
        DeepChannel x = made(SMALLEST);
        int bits = 2 * 232;
        for (int n = 1; n <= 8; n++) {
            Check.same("send: frame " + n, sendFrame(x, 1), n * bits);
        }
        x.data(1, 9);
        Check.same("send: no room", x.send(1), NONE);
        Check.refused("send: no room, and a wrong channel", () -> x.send(8), ARGUMENT);
        Check.same("send: no room, line", x.told(3), 8 * bits);
        Check.same("send: no room, data", x.told(4), 1);
        exactlyFull();
    }

    private static void exactlyFull() {
        DeepChannel x = made(SMALLEST);
        plainBits(x, "0".repeat(2048 - 232));
        x.data(1, 200);
        Check.same("send: to the last bit", x.send(2), 4096);
        x.data(1, 201);
        Check.same("send: full", x.send(2), NONE);
        x.receive(0);
        Check.same("send: the last one is received", x.block(0, 4), 1);
        DeepChannel y = made(SMALLEST);
        plainBits(y, "0".repeat(2048 - 231));
        y.data(1, 200);
        Check.same("send: a bit too many", y.send(2), NONE);
        Check.same("send: a bit too many, line", y.told(3), 2 * 1817);
        DeepChannel z = made(1, 5, 8, 1);
        Check.same("send: the greatest block", sendFrame(z, 0), 3048);
        fillData(z, 3);
        Check.same("send: not twice", z.send(0), NONE);
        Check.same("send: NONE keeps the data", z.told(4), 226);
    }

    private static void sendGoesOnInTheCode() {
        int[] form = {1, 225, 8, 4};
        DeepChannel x = made(form);
        Model m = modelOf(form);
        x.plain(3, 5);
        m.plain(3, 5);
        for (int n = 0; n < 3; n++) {
            fillData(x, n);
            m.data(6, n);
            Check.same("send: goes on " + n, x.send(n), m.send(n));
        }
        Check.same("send: register and places go on", lineBits(x), m.line.toString());
    }

    // ---- promise 7

    private static void plain() {
        DeepChannel x = new DeepChannel();
        for (int wrong : new int[] {0, 65, -1, Integer.MIN_VALUE, Integer.MAX_VALUE}) {
            Check.refused("plain(" + wrong + ")", () -> x.plain(wrong, 0), ARGUMENT);
        }
        Check.same("plain refused: line stays", x.told(3), 0);
        Check.same("plain: 1", x.plain(1, -1), 2);
        Check.same("plain: first pair", x.line(0), 0b01);
        Check.same("plain: 64", x.plain(64, 0), 130);
        // A lone 1 comes out as the taps themselves, from the highest one on.
        StringBuilder due = new StringBuilder();
        for (int b = 6; b >= 0; b--) {
            due.append(121 >> b & 1).append(1 - (91 >> b & 1));
        }
        Check.same("plain: a lone 1", lineBits(x), due + "01".repeat(58));
        DeepChannel y = new DeepChannel();
        y.plain(5, 0b00110);
        y.receive(0);
        Check.same("plain: the lowest first", decodedBits(y), "01100");
    }

    private static void plainPatterns() {
        int[] kept = {14, 11, 10, 9, 8};
        for (int pattern = 0; pattern < 5; pattern++) {
            DeepChannel x = made(1, 200, 8, pattern);
            String bits = "";
            for (int i = 1; i <= 40; i++) {
                x.plain(1, i * i / 3);
                bits += i * i / 3 & 1;
                if (i == 7) {
                    Check.same("plain: kept, pattern " + pattern, x.told(3), kept[pattern]);
                }
            }
            Check.same("plain: pattern " + pattern, lineBits(x), Model.made(bits, pattern));
        }
        String[] due = {"01010101010101", "01101101101", "0110011001", "011010011", "01111010"};
        for (int pattern = 0; pattern < 5; pattern++) {
            DeepChannel x = made(1, 200, 8, pattern);
            x.plain(7, 0);
            Check.same("plain: seven 0, pattern " + pattern, lineBits(x), due[pattern]);
        }
    }

    private static void plainFillsTheLine() {
        int[] most = {2048, 2730, 3072, 3413, 3584};
        int[] full = {4096, 4095, 4096, 4096, 4096};
        for (int pattern = 0; pattern < 5; pattern++) {
            DeepChannel x = made(1, 200, 8, pattern);
            int bits = 0;
            while (bits + 64 < most[pattern]) {
                x.plain(64, bits * 77L);
                bits += 64;
            }
            int left = most[pattern] - bits;
            int before = x.told(3);
            String name = "plain, pattern " + pattern;
            if (left < 64) {
                Check.same(name + ": a bit too many", x.plain(left + 1, -1), NONE);
            }
            Check.same(name + ": NONE changes nothing", x.told(3), before);
            Check.same(name + ": the last bits", x.plain(left, 3), full[pattern]);
            Check.same(name + ": full", x.plain(1, 1), NONE);
            Check.refused(name + ": full, and n wrong", () -> x.plain(0, 1), ARGUMENT);
            x.receive(0);
            Check.same(name + ": decoded", x.told(5), most[pattern]);
            Check.same(name + ": differing", x.told(6), 0);
        }
    }

    // ---- promise 8

    private static void skip() {
        DeepChannel x = made(SMALLEST);
        for (int wrong : new int[] {-1, 8, Integer.MIN_VALUE, Integer.MAX_VALUE}) {
            Check.refused("skip(" + wrong + ")", () -> {
                x.skip(wrong);
                return 0;
            }, ARGUMENT);
        }
        x.data(1, 1);
        x.skip(0);
        x.skip(7);
        x.skip(7);
        Check.same("skip: line stays", x.told(3), 0);
        Check.same("skip: data stay", x.told(4), 1);
        x.send(7);
        sendFrame(x, 0);
        sendFrame(x, 1);
        x.receive(0);
        int[] counts = {3 + 2 * 256, 4 + 256, 5};
        for (int k = 0; k < 3; k++) {
            Check.same("skip: counts " + k, x.frame(k, 2) & 0xFFFF, counts[k]);
        }
        DeepChannel y = made(SMALLEST);
        for (int i = 0; i < 256; i++) {
            y.skip(2);
        }
        sendFrame(y, 2);
        y.receive(0);
        Check.same("skip: modulo 256", y.frame(0, 2) & 0xFFFF, 0);
    }

    // ---- promise 9

    private static void turn() {
        DeepChannel x = new DeepChannel();
        Check.same("turn: empty line", x.turn(0, -1), 0);
        x.plain(50, 0x2F3A9C55D1L);
        String before = lineBits(x);
        Check.same("turn: none", x.turn(3, 0), 0);
        Check.same("turn: two", x.turn(10, 0b101), 2);
        StringBuilder due = new StringBuilder(before);
        due.setCharAt(10, (char) (due.charAt(10) ^ 1));
        due.setCharAt(12, (char) (due.charAt(12) ^ 1));
        Check.same("turn: these", lineBits(x), due.toString());
        Check.same("turn: back", x.turn(12, 1) + x.turn(9, 2), 2);
        Check.same("turn: as before", lineBits(x), before);
        Check.same("turn: over the end", x.turn(98, -1), 2);
        Check.same("turn: over the beginning", x.turn(-62, -1), 2);
        Check.same("turn: both ends", lineBits(x), other(before, 0, 2) + before.substring(2, 98) + other(before, 98, 100));
        Check.same("turn: below", x.turn(-64, -1), 0);
        Check.same("turn: just the first", x.turn(-63, -1), 1);
        Check.same("turn: just the last", x.turn(99, -1), 1);
        Check.same("turn: behind", x.turn(100, -1), 0);
        for (int far : new int[] {Integer.MIN_VALUE, Integer.MAX_VALUE, Integer.MAX_VALUE - 62, 4096, 4095}) {
            Check.same("turn: far " + far, x.turn(far, -1), 0);
        }
        Check.same("turn: the length stays", x.told(3), 100);
        x.plain(1, 0);
        String further = Model.made(bitsOf(0x2F3A9C55D1L, 51), 0).substring(100);
        Check.same("turn: the register is not touched", lineBits(x).substring(100), further);
    }

    private static String other(String row, int from, int to) {
        return row.substring(from, to).replace('0', '-').replace('1', '0').replace('-', '1');
    }

    // ---- promise 10

    private static void line() {
        DeepChannel x = new DeepChannel();
        plainBits(x, "1101".repeat(512));
        String row = Model.made("1101".repeat(512), 0);
        int[] places = {-65, -64, -63, -5, -1, 0, 1, 63, 64, 65, 2000, 4031, 4032, 4033, 4095, 4096, 4097,
            Integer.MIN_VALUE, Integer.MIN_VALUE + 1, Integer.MAX_VALUE, Integer.MAX_VALUE - 63};
        for (int place : places) {
            Check.same("line(" + place + ")", x.line(place), windowOf(row, place));
        }
        DeepChannel y = new DeepChannel();
        y.plain(40, 12345678901L);
        y.turn(0, -1);
        y.turn(64, -1);
        String turned = other(Model.made(bitsOf(12345678901L, 40), 0), 0, 80);
        for (int place = -70; place < 90; place++) {
            Check.same("line(" + place + ") of 80", y.line(place), windowOf(turned, place));
        }
    }

    private static String bitsOf(long bits, int n) {
        StringBuilder row = new StringBuilder();
        for (int i = 0; i < n; i++) {
            row.append(bits >> i & 1);
        }
        return row.toString();
    }

    private static long windowOf(String row, int from) {
        long window = 0;
        for (int b = 0; b < 64; b++) {
            long place = (long) from + b;
            if (place >= 0 && place < row.length()) {
                window |= (long) (row.charAt((int) place) - '0') << b;
            }
        }
        return window;
    }

    // ---- promise 11

    /** All rows of ten bits are held against lines that are spoiled more and more. */
    private static void receiveFindsTheNearest() {
        for (int wrong : new int[] {-1, 9, Integer.MIN_VALUE, Integer.MAX_VALUE}) {
            Check.refused("receive(" + wrong + ")", () -> new DeepChannel().receive(wrong), ARGUMENT);
        }
        Check.same("receive: empty line", new DeepChannel().receive(8), 0);
        int n = 10;
        for (int pattern = 0; pattern < 5; pattern++) {
            String[] rows = new String[1 << n];
            for (int r = 0; r < rows.length; r++) {
                rows[r] = Model.made(Model.binary(r, n), pattern);
            }
            DeepChannel x = made(1, 200, 8, pattern);
            x.plain(n, 0b1011001110);
            int size = x.told(3);
            for (int spoil = 0; spoil < 400; spoil++) {
                x.turn(0, (spoil * 0x9E3779B97F4A7C15L) >>> 40);
                x.receive(spoil % 9);
                String line = lineBits(x);
                int best = 0;
                for (int r = 1; r < rows.length; r++) {
                    if (Model.distance(rows[r], line) < Model.distance(rows[best], line)) {
                        best = r;
                    }
                }
                String name = "receive: nearest, pattern " + pattern + ", line " + line;
                Check.same(name, decodedBits(x), Model.binary(best, n));
                Check.same(name + ", differing", x.told(6), Model.distance(rows[best], line));
                Check.same(name + ", line stays", x.told(3), size);
            }
        }
    }

    /** One bit: 0 makes 01, 1 makes 10; a line 00 or 11 is as near to one as to the other. */
    private static void receiveTakesTheFirstInOrder() {
        for (int one = 0; one < 2; one++) {
            for (int turned = 0; turned < 4; turned++) {
                DeepChannel x = new DeepChannel();
                x.plain(1, one);
                x.turn(0, turned);
                x.receive(0);
                int due = x.line(0) == 0b01 ? 1 : 0;
                Check.same("receive: first in order, " + x.line(0), x.decoded(0), due);
                int differing = x.line(0) == 0b00 || x.line(0) == 0b11 ? 1 : 0;
                Check.same("receive: first in order, differing", x.told(6), differing);
            }
        }
    }

    private static void receiveMarks() {
        Model m = modelOf(SMALLEST);
        String block = m.bitsOf(m.blockOf(m.frameOf(0, 0, 0, new int[] {1})));
        for (int wrong = 0; wrong <= 9; wrong++) {
            for (int limit = 0; limit <= 8; limit++) {
                DeepChannel x = made(SMALLEST);
                x.plain(11, 0);
                plainBits(x, markWith(wrong) + block);
                Check.same("receive: mark " + wrong + ", limit " + limit, x.receive(limit), wrong <= limit ? 1 : 0);
                if (wrong <= limit) {
                    Check.same("receive: place", x.block(0, 0), 43);
                    Check.same("receive: wrong bits of the mark", x.block(0, 1), wrong);
                }
            }
        }
        DeepChannel cut = made(SMALLEST);
        plainBits(cut, Model.MARK + block.substring(1));
        Check.same("receive: a bit is missing", cut.receive(0), 0);
        cut.plain(1, 0);
        Check.same("receive: it came", cut.receive(0), 1);
        DeepChannel inside = made(SMALLEST);
        plainBits(inside, Model.MARK + Model.MARK + block);
        Check.same("receive: a mark inside a block", inside.receive(0), 1);
        Check.same("receive: the first one counts", inside.block(0, 0), 32);
    }

    /** A block is taken behind one that was not missed, whatever its mark; not behind a missed one. */
    private static void receiveMissedMarks() {
        Model m = modelOf(SMALLEST);
        String block = m.bitsOf(m.blockOf(m.frameOf(0, 0, 0, new int[] {1})));
        String spoiled = other(Model.MARK, 0, 32);
        DeepChannel x = made(SMALLEST);
        plainBits(x, Model.MARK + block + spoiled + block + spoiled + block + Model.MARK + block);
        Check.same("receive: missed", x.receive(2), 3);
        int[] places = {32, 264, 728};
        int[] wrong = {0, 32, 0};
        for (int k = 0; k < 3; k++) {
            Check.same("receive: missed, place " + k, x.block(k, 0), places[k]);
            Check.same("receive: missed, mark " + k, x.block(k, 1), wrong[k]);
            Check.same("receive: missed, good " + k, x.block(k, 4), 1);
        }
        DeepChannel y = made(SMALLEST);
        plainBits(y, Model.MARK + block + "1" + spoiled + block + Model.MARK + block + spoiled + block);
        Check.same("receive: only right behind", y.receive(0), 4);
        Check.same("receive: one bit late", y.block(1, 0), 264);
        Check.same("receive: one bit late is a missed one", y.block(1, 4), 0);
        Check.same("receive: after it the next mark", y.block(2, 0), 497);
        Check.same("receive: and one behind that", y.block(3, 0), 729);
        DeepChannel z = made(SMALLEST);
        plainBits(z, spoiled + block + Model.MARK + block);
        Check.same("receive: none before", z.receive(0), 1);
        Check.same("receive: none before, place", z.block(0, 0), 264);
    }

    private static void receiveMostBlocks() {
        DeepChannel x = made(1, 230, 8, 4);
        int sent = 0;
        for (int n = 0; n < 16; n++) {
            sent += sendFrame(x, n % 8) == NONE ? 0 : 1;
        }
        Check.same("receive: most blocks sent", sent, 15);
        Check.same("receive: most blocks taken", x.receive(0), 15);
        for (int k = 0; k < 15; k++) {
            Check.same("receive: good " + k, x.block(k, 4), 1);
            Check.same("receive: count " + k, x.frame(k, 2) & 255, k);
        }
        Check.refused("receive: no more", () -> x.block(15, 0), INDEX);
    }

    // ---- promise 12

    private static void decoded() {
        DeepChannel x = new DeepChannel();
        x.plain(50, 0x3F00FF00FF00FL);
        Check.same("decoded: not before it is received", x.decoded(0), 0);
        x.plain(50, 0x1234567890ABCL);
        x.receive(0);
        String row = bitsOf(0x3F00FF00FF00FL, 50) + bitsOf(0x1234567890ABCL, 50);
        for (int place = -70; place < 110; place++) {
            Check.same("decoded(" + place + ")", x.decoded(place), windowOf(row, place));
        }
        for (int far : new int[] {Integer.MIN_VALUE, Integer.MAX_VALUE, Integer.MAX_VALUE - 63, 4095, 4096}) {
            Check.same("decoded(" + far + ")", x.decoded(far), 0);
        }
        x.plain(10, 1023);
        Check.same("decoded: as it was received", x.decoded(60), windowOf(row, 60));
    }

    // ---- promise 13

    private static void block() {
        int[] form = {2, 220, 8, 0};
        Model m = modelOf(form);
        int[] good = m.blockOf(m.frameOf(300 * 16 + 4, 10, 20, new int[30]));
        int[] some = good.clone();
        spoil(some, 2, 0, 8, 3);
        spoil(some, 2, 1, 5, 20);
        int[] lost = good.clone();
        spoil(lost, 2, 0, 4, 3);
        spoil(lost, 2, 1, 9, 2);
        DeepChannel x = made(form);
        plainBits(x, "00110" + markWith(2) + m.bitsOf(some) + markWith(0) + m.bitsOf(lost));
        Check.same("block: two", x.receive(2), 2);
        int[][] due = {{37, 2, 0, 13, 1, 300, 2, 0, 0}, {629, 0, 1, 4, 0, NONE, NONE, NONE, NONE}};
        for (int k = 0; k < 2; k++) {
            for (int what = 0; what < 9; what++) {
                Check.same("block(" + k + ", " + what + ")", x.block(k, what), due[k][what]);
            }
        }
        for (int wrong : new int[] {-1, 9, Integer.MIN_VALUE, Integer.MAX_VALUE}) {
            Check.refused("block(0, " + wrong + ")", () -> x.block(0, wrong), ARGUMENT);
            Check.refused("block(2, " + wrong + ")", () -> x.block(2, wrong), ARGUMENT);
        }
        for (int wrong : new int[] {-1, 2, Integer.MIN_VALUE, Integer.MAX_VALUE}) {
            Check.refused("block(" + wrong + ", 0)", () -> x.block(wrong, 0), INDEX);
        }
    }

    /** Other bytes for so many of word j, from byte i on. */
    private static void spoil(int[] block, int depth, int j, int count, int i) {
        for (int n = 0; n < count; n++) {
            block[(i + n) * depth + j] ^= 13 * n + 1;
        }
    }

    private static void blockGaps() {
        DeepChannel x = made(1, 230, 8, 4);
        x.skip(1);
        x.skip(1);
        sendFrame(x, 1);
        sendFrame(x, 2);
        x.skip(5);
        sendFrame(x, 1);
        x.skip(1);
        x.skip(2);
        x.skip(1);
        sendFrame(x, 1);
        for (int i = 0; i < 255; i++) {
            x.skip(2);
        }
        sendFrame(x, 2);
        int[] master = {0, 0, 1, 3, 255};
        int[] channel = {0, 0, 0, 2, 0};
        for (int again = 0; again < 2; again++) {
            Check.same("gaps: taken", x.receive(0), 5);
            for (int k = 0; k < 5; k++) {
                Check.same("gaps: master " + k, x.block(k, 7), master[k]);
                Check.same("gaps: channel " + k, x.block(k, 8), channel[k]);
            }
        }
        gapsOverBadFrames();
    }

    private static void gapsOverBadFrames() {
        Model m = modelOf(SMALLEST);
        int[][] frames = {m.frameOf(2, 250, 9, new int[] {1}), m.frameOf(2, 251, 10, new int[] {1}),
            m.frameOf(16 + 2, 3, 4, new int[] {1}), m.frameOf(2, 3, 4, new int[] {1})};
        frames[1][8] ^= 1;
        DeepChannel x = made(SMALLEST);
        for (int[] frame : frames) {
            plainBits(x, Model.MARK + m.bitsOf(m.blockOf(frame)));
        }
        x.receive(0);
        int[] good = {1, 0, 1, 1};
        int[] master = {0, NONE, 8, 255};
        int[] channel = {0, NONE, 250, 255};
        for (int k = 0; k < 4; k++) {
            Check.same("gaps: good " + k, x.block(k, 4), good[k]);
            Check.same("gaps: master, over a bad one " + k, x.block(k, 7), master[k]);
            Check.same("gaps: channel, over a bad one and of another craft " + k, x.block(k, 8), channel[k]);
        }
    }

    /** The highest two bits, the lowest one of byte 1 and the bytes 4 and 5 say nothing. */
    private static void blockCraftAndCheck() {
        Model m = modelOf(SMALLEST);
        int[] frame = m.frameOf(65535, 1, 2, new int[] {3});
        frame[1] = 0xB7;
        frame[4] = 99;
        frame[5] = 98;
        Model.withCheck(frame);
        int[] bad = frame.clone();
        bad[7] ^= 128;
        DeepChannel x = made(SMALLEST);
        plainBits(x, Model.MARK + m.bitsOf(m.blockOf(frame)) + Model.MARK + m.bitsOf(m.blockOf(bad)));
        x.receive(0);
        int[][] due = {{32, 0, 0, 0, 1, 0x3FB, 3, 0, 0}, {264, 0, 0, 0, 0, NONE, NONE, NONE, NONE}};
        for (int k = 0; k < 2; k++) {
            for (int what = 0; what < 9; what++) {
                Check.same("header: block(" + k + ", " + what + ")", x.block(k, what), due[k][what]);
            }
            Check.same("header: word " + k, x.word(k, 0), 0);
        }
        Check.same("header: frame", x.frame(0, 0), eight(frame, 0));
    }

    // ---- promise 14

    private static void word() {
        for (int e = 8; e <= 16; e += 8) {
            int[] form = {3, 200, e, 1};
            Model m = modelOf(form);
            int[] clean = m.blockOf(m.frameOf(0, 0, 0, new int[m.told(1)]));
            for (int count = 0; count <= e + 1; count++) {
                int[] block = clean.clone();
                spoil(block, 3, 1, count, 55 - e - 2);
                spoil(block, 3, 2, 1, 0);
                DeepChannel x = made(form);
                plainBits(x, Model.MARK + m.bitsOf(block));
                x.receive(0);
                String name = "word, e " + e + ", wrong " + count;
                Check.same(name + ": word 0", x.word(0, 0), 0);
                Check.same(name + ": word 1", x.word(0, 1), count > e ? NONE : count);
                Check.same(name + ": word 2", x.word(0, 2), 1);
                Check.same(name + ": lost", x.block(0, 2), count > e ? 1 : 0);
                Check.same(name + ": put right", x.block(0, 3), count > e ? 1 : count + 1);
                for (int wrong : new int[] {-1, 3, 7, 8, 9, Integer.MIN_VALUE, Integer.MAX_VALUE}) {
                    Check.same(name + ": no word " + wrong, x.word(0, wrong), NONE);
                }
                for (int wrong : new int[] {-1, 1, Integer.MIN_VALUE, Integer.MAX_VALUE}) {
                    Check.refused(name + ": no block " + wrong, () -> x.word(wrong, 0), INDEX);
                    Check.refused(name + ": neither " + wrong, () -> x.word(wrong, 9), INDEX);
                }
            }
        }
    }

    /** A longer codeword that is 0 but for few bytes in the fill lies near, but is none of this form. */
    private static void wordNearTheFill() {
        int[] longer = {1, 229, 8, 0};
        Model m = modelOf(longer);
        int[] frame = new int[10];
        frame[0] = 201;
        frame[9] = 7;
        int[] word = Arrays.copyOfRange(m.blockOf(frame), 1, 26);
        DeepChannel x = made(SMALLEST);
        plainBits(x, Model.MARK + modelOf(SMALLEST).bitsOf(word));
        x.receive(0);
        Check.same("word: the codeword lies in the fill", x.word(0, 0), NONE);
        Check.same("word: it stays", x.frame(0, 1), 7L << 56);
    }

    /**
     * Nine wrong bytes that the values at the powers of G tell, each at a place in the word: the
     * codeword nine bytes away could be found, but it is not near enough.
     */
    private static void wordWithNineWrong() {
        int[] places = {40, 18, 34, 0, 11, 39, 16, 47, 26};
        int[] wrong = {233, 159, 95, 65, 79, 48, 4, 211, 119};
        Model m = new Model();
        int[] block = m.blockOf(m.frameOf(0, 0, 0, new int[31]));
        for (int i = 0; i < 9; i++) {
            block[places[i]] ^= wrong[i];
        }
        DeepChannel x = new DeepChannel();
        plainBits(x, Model.MARK + m.bitsOf(block));
        x.receive(0);
        Check.same("word: nine wrong that can be told", x.word(0, 0), NONE);
        Check.same("word: nine wrong stay", x.frame(0, 0), eight(block, 0));
    }

    private static void wordLostInItsChecks() {
        Model m = new Model();
        int[] frame = m.frameOf(34, 1, 1, new int[31]);
        int[] block = m.blockOf(frame);
        spoil(block, 1, 0, 9, 40);
        DeepChannel x = new DeepChannel();
        plainBits(x, Model.MARK + m.bitsOf(block));
        x.receive(0);
        Check.same("word: lost in its check bytes", x.word(0, 0), NONE);
        Check.same("word: the frame is whole", x.frame(0, 0), eight(frame, 0));
        Check.same("word: but not good", x.block(0, 4), 0);
        Check.same("word: and has no craft", x.block(0, 5), NONE);
    }

    // ---- promise 15

    private static void frame() {
        int[] form = {2, 220, 8, 0};
        Model m = modelOf(form);
        int[] values = new int[30];
        for (int i = 0; i < values.length; i++) {
            values[i] = 255 - 3 * i;
        }
        int[] frame = m.frameOf(777, 5, 6, values);
        int[] right = m.blockOf(frame);
        spoil(right, 2, 0, 8, 0);
        int[] lost = m.blockOf(frame);
        spoil(lost, 2, 0, 9, 0);
        spoil(lost, 2, 1, 2, 4);
        DeepChannel x = made(form);
        plainBits(x, Model.MARK + m.bitsOf(right) + Model.MARK + m.bitsOf(lost));
        x.receive(0);
        int[] stays = frame.clone();
        for (int i = 0; i < 9; i++) {
            stays[2 * i] = lost[2 * i];
        }
        for (int i = -10; i < 50; i++) {
            Check.same("frame(0, " + i + ")", x.frame(0, i), eight(frame, i));
            Check.same("frame(1, " + i + "), a word lost, the other put right", x.frame(1, i), eight(stays, i));
        }
        for (int far : new int[] {Integer.MIN_VALUE, Integer.MAX_VALUE, Integer.MAX_VALUE - 7}) {
            Check.same("frame(0, " + far + ")", x.frame(0, far), 0);
        }
        for (int wrong : new int[] {-1, 2, Integer.MIN_VALUE, Integer.MAX_VALUE}) {
            Check.refused("frame(" + wrong + ", 0)", () -> x.frame(wrong, 0), INDEX);
        }
    }

    private static long eight(int[] bytes, int from) {
        long window = 0;
        for (int n = 0; n < 8; n++) {
            if (from + n >= 0 && from + n < bytes.length) {
                window |= (long) bytes[from + n] << (8 * n);
            }
        }
        return window;
    }
}
