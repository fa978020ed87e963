import java.util.Arrays;
import java.util.Random;

/** Promise 14: word, and how the terms put words right. */
public final class WordTest {
    private static final int NONE = Counted.NONE;
    private static final Class<IndexOutOfBoundsException> INDEX = IndexOutOfBoundsException.class;

    public static void main(String[] args) {
        noSuchBlock();
        noSuchWord();
        upToE();
        eachPlace();
        theHighestAndTheLowestBytes();
        anyPlaces();
        oneValueThatIsNotZero();
        nearTheFill();
        nearEachByteOfTheFill();
        nineThatCanBeTold();
        allZero();
        becomesAnotherCodeword();
        Check.end();
    }

    private static Counted taken(int[] form, int[] block) {
        Counted x = Counted.of(form);
        x.put(Model.MARK + Rows.model(form).bitsOf(block));
        x.receive(0);
        return x;
    }

    private static int[] clean(int... form) {
        Model m = Rows.model(form);
        int[] values = new int[m.told(1)];
        for (int i = 0; i < values.length; i++) {
            values[i] = 255 - 7 * i & 255;
        }
        return m.blockOf(m.frameOf(0x1234, 56, 78, values));
    }

    /** "IndexOutOfBoundsException: there is no block k", whatever the word. */
    private static void noSuchBlock() {
        Counted none = new Counted();
        Counted one = taken(Counted.SMALLEST, clean(Counted.SMALLEST));
        for (int j : new int[] {-1, 0, 1, 8, Integer.MIN_VALUE, Integer.MAX_VALUE}) {
            for (int k : new int[] {-1, 0, 1, Integer.MIN_VALUE, Integer.MAX_VALUE}) {
                Check.refused("word(" + k + ", " + j + "), nothing received", () -> none.word(k, j), INDEX);
            }
            for (int k : new int[] {-2, -1, 1, 2, 15, 16, Integer.MIN_VALUE, Integer.MAX_VALUE}) {
                Check.refused("word(" + k + ", " + j + ") of one block", () -> one.word(k, j), INDEX);
            }
        }
    }

    /** "NONE if it is lost, or there is no such word": below 0, and from the depth on. */
    private static void noSuchWord() {
        for (int depth : new int[] {1, 2, 3, 4, 5, 8}) {
            int[] form = {depth, 230, 8, 4};
            int[] block = clean(form);
            for (int j = 0; j < depth; j++) {
                Rows.spoil(block, depth, j, j + 1, 0);
            }
            Counted x = taken(form, block);
            for (int j = 0; j < depth; j++) {
                Check.same("word " + j + " of " + depth, x.word(0, j), j + 1);
            }
            for (int j : new int[] {-2, -1, depth, depth + 1, 8, 9, 16, Integer.MIN_VALUE, Integer.MAX_VALUE}) {
                Check.same("no word " + j + " of " + depth, x.word(0, j), NONE);
            }
        }
    }

    /** "from which it differs at no more than E places; if there is none, the word stays, and is LOST". */
    private static void upToE() {
        for (int e = 8; e <= 16; e += 8) {
            int[] form = {3, 200, e, 1};
            for (int count = 0; count <= e + 1; count++) {
                for (int from : new int[] {0, 55 - 2 * e - count / 2, 55 - count}) {
                    int[] block = clean(form);
                    Rows.spoil(block, 3, 1, count, from);
                    Rows.spoil(block, 3, 2, 1, 0);
                    Counted x = taken(form, block);
                    String name = "E " + e + ", wrong " + count + " from " + from;
                    boolean lost = count > e;
                    Check.same(name + ": word 0", x.word(0, 0), 0);
                    Check.same(name + ": word 1", x.word(0, 1), lost ? NONE : count);
                    Check.same(name + ": word 2", x.word(0, 2), 1);
                    Check.same(name + ": lost", x.block(0, 2), lost ? 1 : 0);
                    Check.same(name + ": put right", x.block(0, 3), lost ? 1 : count + 1);
                    frameIs(name, x, lost ? block : clean(form), 3, 55 - 2 * e);
                }
            }
        }
    }

    /** Word 1 is as in that block, the others are put right. */
    private static void frameIs(String name, Counted x, int[] block, int depth, int bytes) {
        int[] clean = clean(3, 200, bytes == 39 ? 8 : 16, 1);
        for (int i = 0; i < bytes * depth; i++) {
            int due = i % depth == 1 ? block[i] : clean[i];
            Check.same(name + ": byte " + i, x.frame(0, i) & 255, due);
        }
    }

    /** Each byte of the shortest and of the longest word, by each kind of difference. */
    private static void eachPlace() {
        int[][] forms = {{1, 230, 8, 4}, {1, 5, 16, 4}};
        for (int[] form : forms) {
            int[] clean = clean(form);
            for (int place = 0; place < clean.length; place++) {
                int[] block = clean.clone();
                block[place] ^= 1 + place * 37 % 255;
                Counted x = taken(form, block);
                Check.same("word: byte " + place + " of " + clean.length, x.word(0, 0), 1);
                Check.same("word: byte " + place + ", good", x.block(0, 4), 1);
            }
        }
    }

    /** E wrong bytes at both ends of the longest word, and one more. */
    private static void theHighestAndTheLowestBytes() {
        for (int e = 8; e <= 16; e += 8) {
            int[] form = {1, 5, e, 4};
            int[] block = clean(form);
            for (int n = 0; n < e / 2; n++) {
                block[n] ^= 255;
                block[249 - n] ^= 128;
            }
            Counted x = taken(form, block);
            Check.same("word: both ends, E " + e, x.word(0, 0), e);
            Check.same("word: both ends, good", x.block(0, 4), 1);
            block[100] ^= 1;
            Check.same("word: one more, E " + e, taken(form, block).word(0, 0), NONE);
        }
    }

    /** "the codeword from which it differs at no more than E places": wherever these are, whatever stands there. */
    private static void anyPlaces() {
        Random random = new Random(14);
        int[][] forms = {{1, 230, 8, 4}, {1, 190, 8, 4}, {1, 214, 16, 4}, {1, 150, 16, 4}};
        for (int[] form : forms) {
            int[] clean = clean(form);
            for (int round = 0; round < 60; round++) {
                rowOfWords(form, clean, random);
            }
        }
    }

    /** As many blocks of one word each as the line has room for. */
    private static void rowOfWords(int[] form, int[] clean, Random random) {
        Model m = Rows.model(form);
        int[][] words = new int[3584 / (32 + 8 * clean.length)][];
        Counted x = Counted.of(form);
        for (int k = 0; k < words.length; k++) {
            words[k] = clean.clone();
            spoilAnywhere(words[k], random.nextInt(form[2] + 3), random);
            x.put(Model.MARK + m.bitsOf(words[k]));
        }
        Check.same("word: all are taken", x.receive(0), words.length);
        for (int k = 0; k < words.length; k++) {
            String name = "word: " + Arrays.toString(words[k]);
            Check.same(name, x.word(k, 0), Model.putRight(words[k], form[2]));
            int[] frame = Arrays.copyOf(words[k], m.told(0));
            for (int i = 0; i < frame.length; i += 8) {
                Check.same(name + ": bytes from " + i, x.frame(k, i), Rows.eight(frame, i));
            }
        }
    }

    private static void spoilAnywhere(int[] word, int count, Random random) {
        for (int n = 0; n < count; n++) {
            word[random.nextInt(word.length)] ^= 1 + random.nextInt(255);
        }
    }

    private static void isLost(String name, int[] form, int[] word) {
        Counted x = taken(form, word);
        Check.same("word: " + name, x.word(0, 0), NONE);
        Check.same("word: " + name + ", lost", x.block(0, 2), 1);
        Check.same("word: " + name + ", it stays", x.frame(0, 0), Rows.eight(word, 0));
    }

    /** "if the value of that at G to the j is 0 for all j from 128 - E to 127 + E": all but one do not do. */
    private static void oneValueThatIsNotZero() {
        for (int[] form : new int[][] {{1, 230, 8, 4}, {1, 214, 16, 4}}) {
            int e = form[2];
            for (int j = 128 - e; j <= 127 + e; j++) {
                for (int value : new int[] {1, 254}) {
                    int[] values = new int[2 * e];
                    values[j - 128 + e] = value;
                    int[] word = clean(form);
                    Model.addChecks(word, e, values);
                    isLost("E " + e + ", value " + value + " at " + j, form, word);
                }
            }
        }
    }

    /** A longer codeword that is 0 but for a byte in the fill lies near, but is none of this form. */
    private static void nearTheFill() {
        Model longer = Rows.model(1, 229, 8, 0);
        int[] frame = new int[10];
        frame[0] = 201;
        frame[9] = 7;
        int[] block = Arrays.copyOfRange(longer.blockOf(frame), 1, 26);
        Counted x = taken(Counted.SMALLEST, block);
        Check.same("word: the codeword lies in the fill", x.word(0, 0), NONE);
        Check.same("word: it stays", x.frame(0, 1), 7L << 56);
    }

    /** The same for each power of the fill, alone and with as many wrong bytes in the word as E leaves. */
    private static void nearEachByteOfTheFill() {
        for (int[] form : new int[][] {{1, 230, 8, 4}, {1, 214, 16, 4}, {1, 5, 8, 4}}) {
            int size = 255 - form[1];
            int e = form[2];
            for (int power = size; power < 255; power++) {
                int[] values = new int[2 * e];
                for (int s = 0; s < 2 * e; s++) {
                    values[s] = Model.times(1 + power, Model.g((128 - e + s) * power));
                }
                int[] word = clean(form);
                Model.addChecks(word, e, values);
                isLost("E " + e + ", a byte at the power " + power, form, word);
                Rows.spoil(word, 1, 0, e - 1, power % (size - e));
                isLost("E " + e + ", a byte at the power " + power + " and others", form, word);
            }
        }
    }

    /**
     * Nine wrong bytes that the values at the powers of G tell, each at a place in the word: the
     * codeword nine bytes away could be found, but it is not near enough.
     */
    private static void nineThatCanBeTold() {
        int[] places = {40, 18, 34, 0, 11, 39, 16, 47, 26};
        int[] wrong = {233, 159, 95, 65, 79, 48, 4, 211, 119};
        Model m = new Model();
        int[] block = m.blockOf(m.frameOf(0, 0, 0, new int[31]));
        for (int i = 0; i < 9; i++) {
            block[places[i]] ^= wrong[i];
        }
        Counted x = taken(new int[] {1, 200, 8, 0}, block);
        Check.same("word: nine wrong that can be told", x.word(0, 0), NONE);
        Check.same("word: nine wrong stay", x.frame(0, 0), Rows.eight(block, 0));
    }

    /** All 0 is a codeword: near it are words with few other bytes, whatever these are. */
    private static void allZero() {
        for (int count = 0; count <= 9; count++) {
            int[] block = new int[25];
            for (int n = 0; n < count; n++) {
                block[2 * n] = 255;
            }
            Counted x = taken(Counted.SMALLEST, block);
            Check.same("word: all 0 but " + count, x.word(0, 0), count > 8 ? NONE : count);
            Check.same("word: all 0 but " + count + ", frame", x.frame(0, 0), count > 8 ? 0x00FF00FF00FF00FFL : 0);
        }
    }

    /** A word that is nearer to another codeword than to what was sent becomes that one. */
    private static void becomesAnotherCodeword() {
        Model m = Rows.model(Counted.SMALLEST);
        int[] other = m.blockOf(m.frameOf(0, 0, 0, new int[] {1}));
        int[] near = other.clone();
        Rows.spoil(near, 1, 0, 8, 17);
        Counted x = taken(Counted.SMALLEST, near);
        Check.same("word: becomes the nearest", x.word(0, 0), 8);
        Check.same("word: and good", x.block(0, 4), 1);
        Check.same("word: its bytes", x.frame(0, 0), Rows.eight(m.frameOf(0, 0, 0, new int[] {1}), 0));
    }
}
