/** The terms that sending rests on, held against the bits that come out, by the words of the document. */
public final class TermsTest {
    private static final int[][] FORMS = {{1, 230, 8, 0}, {1, 5, 8, 1}, {1, 5, 16, 2}, {1, 214, 16, 0}, {2, 218, 16, 0},
        {3, 236, 8, 3}, {4, 193, 8, 4}, {5, 205, 16, 1}, {8, 224, 8, 4}, {8, 237, 8, 0}};

    public static void main(String[] args) {
        theModelStandsOnKnownNumbers();
        markFromItsHighestBitOn();
        mixerToItsLastByte();
        framesLaidIntoWords();
        codewordsForThesePowers();
        codewordsForNoOtherPowers();
        checkFromTheFirstBitOn();
        Check.end();
    }

    /** Numbers that the document or common tables tell, so that the model is no guess. */
    private static void theModelStandsOnKnownNumbers() {
        Check.same("G", Model.power(2, 11), 173);
        Check.same("G to the 255", Model.power(173, 255), 1);
        boolean[] seen = new boolean[256];
        for (int x = 0; x < 256; x++) {
            Check.holds("the other form of just one element", !seen[Model.otherForm(x)]);
            seen[Model.otherForm(x)] = true;
            Check.same("back from the other form", Model.element(Model.otherForm(x)), x);
        }
        Check.same("the other form of 0", Model.otherForm(0), 0);
        Check.same("the other form of 1", Model.otherForm(1), 123);
        Check.same("the other form of 128", Model.otherForm(128), 141);
        Check.same("mark", Model.MARK, Model.binary(0x1ACFFC1D, 32));
        int[] mixer = {255, 72, 14, 192, 154, 13, 112, 188};
        for (int t = 0; t < 8; t++) {
            Check.same("mixer byte " + t, Model.mixer()[t], mixer[t]);
        }
        int[] digits = {'1', '2', '3', '4', '5', '6', '7', '8', '9'};
        Check.same("check of 123456789", Model.checkOf(digits), 0x29B1);
        Check.same("check of nothing", Model.checkOf(new int[0]), 65535);
    }

    /** What a frame is sent as, found again: no bits are spoiled. */
    private static String sent(int... form) {
        Counted x = Counted.of(form);
        x.craft(0x2C5);
        x.fillData(0xFEDCBA9876543210L);
        x.send(3);
        x.receive(0);
        Check.same("terms: nothing differs", x.told(6), 0);
        return x.decodedRow();
    }

    private static int[] block(int... form) {
        String row = sent(form);
        int[] mixer = Model.mixer();
        int[] block = new int[(row.length() - 32) / 8];
        for (int t = 0; t < block.length; t++) {
            block[t] = Integer.parseInt(row.substring(32 + 8 * t, 40 + 8 * t), 2) ^ mixer[t];
        }
        return block;
    }

    /** "32 bits, the MARK 449838109 from its highest one on". */
    private static void markFromItsHighestBitOn() {
        for (int[] form : FORMS) {
            Check.same("mark", sent(form).substring(0, 32), Model.binary(449838109, 32));
        }
    }

    /** "the MIXER, whose bits are eight 1 and then each the exclusive or of those eight, five, three places and one place before". */
    private static void mixerToItsLastByte() {
        int[] bits = new int[2000];
        for (int i = 0; i < 2000; i++) {
            bits[i] = i < 8 ? 1 : bits[i - 8] ^ bits[i - 5] ^ bits[i - 3] ^ bits[i - 1];
        }
        // A block of zeros is the mixer itself: the word of zeros is a codeword, with no byte put right.
        int[] form = {1, 5, 8, 4};
        StringBuilder row = new StringBuilder(Model.MARK);
        for (int bit : bits) {
            row.append(bit);
        }
        Counted x = Counted.of(form);
        x.put(row.toString());
        x.receive(0);
        Check.same("mixer: no byte is wrong", x.word(0, 0), 0);
        for (int i = 0; i < 234; i += 8) {
            Check.same("mixer: frame(0, " + i + ")", x.frame(0, i), 0);
        }
    }

    /** "byte k of the frame is byte k / I (rounded down) of word k % I"; "the bytes 0 of all words, 0 to I - 1, then the bytes 1". */
    private static void framesLaidIntoWords() {
        for (int[] form : FORMS) {
            Counted x = Counted.of(form);
            x.craft(0x2C5);
            x.fillData(0xFEDCBA9876543210L);
            x.send(3);
            x.receive(0);
            int[] block = block(form);
            int size = x.told(0);
            Check.same("block: bytes", block.length, form[0] * (255 - form[1]));
            Check.same("block: byte 0", block[0], 0x2C);
            Check.same("block: byte 1", block[1], 0x56);
            for (int k = 0; k < size; k++) {
                Check.same("block: byte " + k, block[k / form[0] * form[0] + k % form[0]], x.frame(0, k) & 255);
            }
        }
    }

    /** "if the value of that at G to the j is 0 for all j from 128 - E to 127 + E". */
    private static void codewordsForThesePowers() {
        for (int[] form : FORMS) {
            int[] block = block(form);
            int e = form[2];
            for (int word = 0; word < form[0]; word++) {
                for (int j = 128 - e; j <= 127 + e; j++) {
                    Check.same("word " + word + " of depth " + form[0] + ", E " + e + ": value at " + j,
                            value(block, form[0], word, 255 - form[1], j), 0);
                }
            }
        }
    }

    /** Not for the powers on either side: a word may happen to be 0 there, but most are not. */
    private static void codewordsForNoOtherPowers() {
        for (int[] f : new int[][] {{8, 224, 8, 4}, {5, 205, 16, 4}}) {
            int[] block = block(f);
            for (int j : new int[] {127 - f[2], 128 + f[2]}) {
                int zeros = 0;
                for (int word = 0; word < f[0]; word++) {
                    zeros += value(block, f[0], word, 255 - f[1], j) == 0 ? 1 : 0;
                }
                Check.holds("E " + f[2] + ": value at " + j + " is not 0 in most words", zeros < f[0] / 2);
            }
        }
    }

    /** The first byte belongs to the highest power. */
    private static int value(int[] block, int depth, int word, int size, int j) {
        int at = Model.power(173, j);
        int value = 0;
        for (int i = 0; i < size; i++) {
            value = Model.times(value, at) ^ Model.element(block[i * depth + word]);
        }
        return value;
    }

    /** "a number of 16 bits, 65535 at first, for each bit, from the first one on ...": by its own words. */
    private static void checkFromTheFirstBitOn() {
        for (int[] form : FORMS) {
            Counted x = Counted.of(form);
            x.craft(1023);
            x.fillData(0x8100FF7F01FE80C3L);
            x.send(7);
            x.receive(0);
            int size = x.told(0);
            int check = 65535;
            for (int i = 0; i < size - 2; i++) {
                int value = (int) x.frame(0, i) & 255;
                for (int b = 7; b >= 0; b--) {
                    int highest = check / 32768 ^ value >> b & 1;
                    check = check * 2 % 65536 ^ (highest == 1 ? 4129 : 0);
                }
            }
            Check.same("check: its higher byte", x.frame(0, size - 2) & 255, check / 256);
            Check.same("check: its lower byte", x.frame(0, size - 1), check % 256);
        }
    }
}
