import java.util.Arrays;
import java.util.Random;

/** Promise 2, and the FORM of the terms: which forms there are, and what a new one leaves. */
public final class FormTest {
    private static final Class<IllegalArgumentException> ARGUMENT = IllegalArgumentException.class;
    private static final int[] DEPTHS = {1, 2, 3, 4, 5, 8};

    public static void main(String[] args) {
        depths();
        depthsThatGoRound();
        fills();
        fillsThatGoRound();
        strengths();
        patterns();
        wordsNoLongerThanTheirChecks();
        lessThanNineBytes();
        moreThan250Bytes();
        everyForm();
        edgesAreOfUse();
        allElseIsAsAtFirst();
        theCraftStays();
        theSameFormAgain();
        fromTheGreatestToTheSmallest();
        refused();
        Check.end();
    }

    private static void there(int depth, int fill, int e, int pattern) {
        Check.same("form(" + depth + ", " + fill + ", " + e + ", " + pattern + ")",
                Check.outcome(() -> new Counted().form(depth, fill, e, pattern)), "0");
    }

    private static void none(int depth, int fill, int e, int pattern) {
        Check.refused("form(" + depth + ", " + fill + ", " + e + ", " + pattern + ")",
                () -> new Counted().form(depth, fill, e, pattern), ARGUMENT);
    }

    /** "a DEPTH I (1, 2, 3, 4, 5 or 8)". */
    private static void depths() {
        for (int depth : DEPTHS) {
            there(depth, 230, 8, 0);
            Check.same("depth " + depth, Counted.of(depth, 230, 8, 0).told(2), 25 * depth);
        }
        for (int depth : new int[] {-8, -1, 0, 6, 7, 9, 10, 1 << 28, (1 << 30) + 1, 1 << 31}) {
            none(depth, 230, 8, 0);
        }
        for (int far : Rows.FAR) {
            none(far, 230, 8, 0);
        }
    }

    /** Depths so far off that the bytes of all words, counted by an int, come out few again. */
    private static void depthsThatGoRound() {
        for (int depth = 1; depth <= 5; depth++) {
            for (int bit = 26; bit <= 31; bit++) {
                for (int fill : new int[] {205, 207, 223, 231}) {
                    none(depth - (1 << bit), fill, 8, 0);
                    none(depth + (1 << bit), fill, 8, 0);
                }
            }
        }
        Random random = new Random(2);
        for (int n = 0; n < 5000; n++) {
            int far = random.nextInt();
            none(far < 0 ? far : far | 16, 200 + n % 40, 8 + n % 2 * 8, n % 5);
        }
    }

    /** "a FILL (0 .. 250)": its ends are in no form that there is, nor is anything behind them. */
    private static void fills() {
        for (int depth : DEPTHS) {
            for (int e = 8; e <= 16; e += 8) {
                for (int fill : new int[] {-1, 0, 1, 250, 251, 254, 255, 256}) {
                    none(depth, fill, e, 0);
                }
                for (int far : Rows.FAR) {
                    none(depth, far, e, 0);
                }
            }
        }
    }

    /** Fills so far below 0 that the bytes of all words, counted by an int, come out few again. */
    private static void fillsThatGoRound() {
        for (int size = 25; size <= 31; size++) {
            none(4, 255 - size - (1 << 30), 8, 0);
            none(8, 255 - size - (1 << 29), 8, 0);
            none(8, 255 - size - (1 << 30), 8, 0);
            none(2, 255 - size - (1 << 31), 8, 0);
            none(4, 255 - size + (1 << 30), 8, 0);
        }
    }

    /** "E (8 or 16)". */
    private static void strengths() {
        there(1, 200, 8, 0);
        there(1, 200, 16, 0);
        Check.same("E 8: frame", Counted.of(1, 200, 8, 0).told(0), 39);
        Check.same("E 16: frame", Counted.of(1, 200, 16, 0).told(0), 23);
        for (int e : new int[] {-16, -8, -1, 0, 1, 4, 7, 9, 12, 15, 17, 20, 24, 32}) {
            none(1, 200, e, 0);
        }
        for (int far : new int[] {Integer.MIN_VALUE, Integer.MIN_VALUE + 8, Integer.MIN_VALUE + 16, Integer.MAX_VALUE}) {
            none(1, 200, far, 0);
        }
    }

    /** "a PATTERN (0 .. 4)". */
    private static void patterns() {
        for (int pattern = 0; pattern <= 4; pattern++) {
            there(1, 200, 8, pattern);
        }
        for (int pattern : new int[] {-2, -1, 5, 6}) {
            none(1, 200, 8, pattern);
        }
        for (int far : Rows.FAR) {
            none(1, 200, 8, far);
        }
    }

    /** "There is no form whose words have no more than 2 E bytes". */
    private static void wordsNoLongerThanTheirChecks() {
        for (int depth : DEPTHS) {
            for (int fill = 238; fill <= 241; fill++) {
                none(depth, fill, 8, 0);
            }
            for (int fill = 222; fill <= 241; fill++) {
                none(depth, fill, 16, 0);
            }
        }
    }

    /** "or all words together less than 9 bytes beside the check bytes": the greatest fills. */
    private static void lessThanNineBytes() {
        int[][] most = {{1, 230, 8, 9}, {2, 234, 8, 10}, {3, 236, 8, 9}, {4, 236, 8, 12}, {5, 237, 8, 10},
            {8, 237, 8, 16}, {1, 214, 16, 9}, {2, 218, 16, 10}, {3, 220, 16, 9}, {4, 220, 16, 12}, {5, 221, 16, 10}};
        for (int[] form : most) {
            there(form[0], form[1], form[2], 0);
            Check.same("least frame " + Arrays.toString(form), Counted.of(form[0], form[1], form[2], 0).told(0), form[3]);
            none(form[0], form[1] + 1, form[2], 0);
        }
    }

    /** "or more than 250 with them": the least fills; with depth 8 and E 16 there is none at all. */
    private static void moreThan250Bytes() {
        int[][] least = {{1, 5, 250}, {2, 130, 250}, {3, 172, 249}, {4, 193, 248}, {5, 205, 250}};
        for (int[] form : least) {
            for (int e = 8; e <= 16; e += 8) {
                there(form[0], form[1], e, 0);
                Check.same("greatest block " + Arrays.toString(form), Counted.of(form[0], form[1], e, 0).told(2), form[2]);
                none(form[0], form[1] - 1, e, 0);
            }
        }
        there(8, 224, 8, 0);
        Check.same("greatest block of depth 8", Counted.of(8, 224, 8, 0).told(2), 248);
        none(8, 223, 8, 0);
        for (int fill = 0; fill <= 250; fill++) {
            none(8, fill, 16, 0);
        }
    }

    /** Every fill and depth by the words of the document, and how many bytes it makes. */
    private static void everyForm() {
        for (int depth = 0; depth <= 9; depth++) {
            for (int fill = -1; fill <= 251; fill++) {
                for (int e = 8; e <= 16; e += 8) {
                    int size = 255 - fill;
                    boolean due = depth > 0 && depth != 6 && depth != 7 && depth != 9
                            && size > 2 * e && depth * (size - 2 * e) >= 9 && depth * size <= 250;
                    if (due) {
                        sizes(depth, fill, e);
                    } else {
                        none(depth, fill, e, 3);
                    }
                }
            }
        }
    }

    private static void sizes(int depth, int fill, int e) {
        Counted x = Counted.of(depth, fill, e, 3);
        String name = "form(" + depth + ", " + fill + ", " + e + ", 3): ";
        int frame = depth * (255 - fill - 2 * e);
        Check.same(name + "frame", x.told(0), frame);
        Check.same(name + "data", x.told(1), frame - 8);
        Check.same(name + "block", x.told(2), depth * (255 - fill));
    }

    /** A frame goes through with the least and the greatest fill of each depth. */
    private static void edgesAreOfUse() {
        int[][] forms = {{1, 5, 8}, {1, 230, 8}, {1, 5, 16}, {1, 214, 16}, {2, 130, 8}, {2, 234, 8}, {2, 130, 16},
            {2, 218, 16}, {3, 172, 8}, {3, 236, 8}, {3, 172, 16}, {3, 220, 16}, {4, 193, 8}, {4, 236, 8},
            {4, 193, 16}, {4, 220, 16}, {5, 205, 8}, {5, 237, 8}, {5, 205, 16}, {5, 221, 16}, {8, 224, 8}, {8, 237, 8}};
        for (int[] form : forms) {
            for (int pattern = 0; pattern <= 4; pattern++) {
                Counted x = Counted.of(form[0], form[1], form[2], pattern);
                Model m = Rows.model(form[0], form[1], form[2], pattern);
                String name = "form " + Arrays.toString(form) + ", pattern " + pattern;
                for (int left = m.told(1); left > 0; left -= 8) {
                    x.data(Math.min(left, 8), 0xD1B54A32D192ED03L * left);
                    m.data(Math.min(left, 8), 0xD1B54A32D192ED03L * left);
                }
                boolean room = 32 + 8 * m.told(2) <= Model.sentBits(4096, pattern);
                Check.same(name + ": send", x.send(6), m.send(6));
                Check.same(name + ": line", x.lineRow(), m.line.toString());
                Check.same(name + ": taken", x.receive(0), room ? 1 : 0);
                if (room) {
                    Check.same(name + ": good", x.block(0, 4), 1);
                }
            }
        }
    }

    /** An object in which nothing is as at first. */
    private static Counted busy(int... form) {
        Counted x = Counted.of(form);
        x.craft(77);
        x.plain(5, 21);
        x.sendFrame(3);
        x.skip(3);
        x.skip(6);
        x.data(1, 1);
        x.turn(200, 1);
        x.receive(2);
        Check.same("form: a block before", x.told(7), 1);
        Check.same("form: a wrong bit before", x.told(6), 1);
        return x;
    }

    /** "Another form, and all else as at first". */
    private static void allElseIsAsAtFirst() {
        Counted x = busy(1, 200, 8, 0);
        x.form(2, 220, 8, 1);
        for (int what = 3; what <= 7; what++) {
            Check.same("form: told(" + what + ") is 0 again", x.told(what), 0);
        }
        Check.same("form: line", x.line(0), 0);
        Check.same("form: decoded", x.decoded(0), 0);
        Check.same("form: nothing to turn", x.turn(0, -1), 0);
        Check.refused("form: no data", () -> x.send(0), IllegalStateException.class);
        Check.refused("form: no block", () -> x.block(0, 0), IndexOutOfBoundsException.class);
        Check.refused("form: no word", () -> x.word(0, 0), IndexOutOfBoundsException.class);
        Check.refused("form: no frame", () -> x.frame(0, 0), IndexOutOfBoundsException.class);
        Counted fresh = Counted.of(2, 220, 8, 1);
        fresh.craft(77);
        Check.same("form: counts, register and place in the pattern, too", x.comes(), fresh.comes());
    }

    /** "but for the craft". */
    private static void theCraftStays() {
        Counted x = busy(1, 200, 8, 0);
        x.form(1, 225, 8, 4);
        x.sendFrame(0);
        x.receive(0);
        Check.same("form: the craft of a frame", x.block(0, 5), 77);
        Check.same("form: the craft", x.craft(1023), 77);
        x.form(1, 200, 8, 0);
        Check.same("form: the greatest craft", x.craft(0), 1023);
    }

    /** The form that it has already is another one in this: all else is as at first. */
    private static void theSameFormAgain() {
        int[] form = {1, 225, 8, 4};
        Counted x = busy(form);
        x.form(1, 225, 8, 4);
        Counted fresh = Counted.of(form);
        fresh.craft(77);
        Check.same("form: the same again", x.comes(), fresh.comes());
    }

    /** From one end to the other and back: check bytes and rows are those of the new form. */
    private static void fromTheGreatestToTheSmallest() {
        int[][] forms = {{1, 5, 16, 4}, {1, 230, 8, 4}, {8, 224, 8, 2}, {3, 220, 16, 3}, {1, 214, 16, 0}, {5, 237, 8, 1}};
        for (int[] before : forms) {
            for (int[] after : forms) {
                Counted x = Counted.of(before);
                x.sendFrame(5);
                x.receive(0);
                x.data(1, 200);
                x.form(after[0], after[1], after[2], after[3]);
                String name = "form: " + Arrays.toString(before) + " to " + Arrays.toString(after);
                Check.same(name, frameSeen(x), frameSeen(Counted.of(after)));
            }
        }
    }

    private static String frameSeen(Counted x) {
        x.sendFrame(1);
        x.turn(120, 0x7FFFFFFFFFL);
        x.receive(0);
        return x.seen();
    }

    /** "IllegalArgumentException: there is none such." A full line, data and blocks all stay. */
    private static void refused() {
        int[][] none = {{0, 200, 8, 0}, {6, 230, 8, 0}, {1, 4, 8, 0}, {1, 231, 8, 0}, {1, 200, 9, 0}, {1, 200, 8, 5},
            {1, 200, 8, -1}, {1, 251, 8, 0}, {1, -1, 8, 0}};
        for (int[] form : none) {
            Counted x = busy(1, 225, 8, 4);
            String before = x.seen();
            Check.refused("form refused " + Arrays.toString(form), () -> x.form(form[0], form[1], form[2], form[3]), ARGUMENT);
            Check.same("form refused: all stays", x.seen(), before);
            Check.same("form refused: all comes the same", x.comes(), busy(1, 225, 8, 4).comes());
        }
    }
}
