/** Promise 11, and RECEIVING of the terms: the nearest row, and where its blocks are. */
public final class ReceiveTest {
    private static final String BLOCK = Rows.block(0, 0, 0, Counted.SMALLEST);
    private static final String SPOILED = Rows.turned(Model.MARK, 0, 32);

    public static void main(String[] args) {
        limits();
        refusedLimits();
        anEmptyLine();
        asManyBitsAsWereSent();
        theNearestOfAll();
        theNearestOfLongRows();
        theFirstInOrder();
        thirtyTwoBitsAndABlock();
        marksUpToTheLimit();
        fromEveryPlace();
        oneBitOnly();
        notInsideABlock();
        behindABlock();
        behindAMissedOne();
        whereTheBlockEnded();
        missedAtTheEnd();
        mostBlocks();
        leavesTheSenderAlone();
        Check.end();
    }

    private static Counted smallest(String bits) {
        Counted x = Counted.of(Counted.SMALLEST_DENSE);
        x.put(bits);
        return x;
    }

    private static String places(Counted x) {
        StringBuilder text = new StringBuilder();
        int blocks = x.told(7);
        for (int k = 0; k < blocks; k++) {
            text.append(' ').append(x.block(k, 0)).append(':').append(x.block(k, 1));
        }
        return text.toString();
    }

    /** "limit is not 0 .. 8": all that it is. */
    private static void limits() {
        for (int limit = 0; limit <= 8; limit++) {
            Counted x = smallest(Model.MARK + BLOCK);
            Check.same("receive(" + limit + ")", x.receive(limit), 1);
            Check.same("receive(" + limit + "): told", x.told(7), 1);
        }
    }

    /** One behind either end, and far off: what was received stays as it was. */
    private static void refusedLimits() {
        for (int wrong : new int[] {-2, -1, 9, 10, 32}) {
            refused(wrong);
        }
        for (int far : Rows.FAR) {
            refused(far);
        }
    }

    private static void refused(int wrong) {
        Counted x = smallest(Model.MARK + BLOCK);
        Check.refused("receive(" + wrong + "), the first", () -> x.receive(wrong), IllegalArgumentException.class);
        Check.same("receive(" + wrong + "): nothing received", x.told(5) + x.told(7), 0);
        x.receive(3);
        x.turn(0, -1);
        x.plain(8, 1);
        String before = x.seen();
        Check.refused("receive(" + wrong + ")", () -> x.receive(wrong), IllegalArgumentException.class);
        Check.same("receive(" + wrong + ") changes nothing", x.seen(), before);
    }

    /** With no bits at all there is one row, of none, and no block. */
    private static void anEmptyLine() {
        for (int pattern = 0; pattern <= 4; pattern++) {
            for (int limit = 0; limit <= 8; limit++) {
                Counted x = Counted.of(1, 200, 8, pattern);
                Check.same("receive: empty line", x.receive(limit), 0);
                for (int what = 5; what <= 7; what++) {
                    Check.same("receive: empty line, told(" + what + ")", x.told(what), 0);
                }
            }
        }
    }

    /** "Let n be the greatest number of sent bits that make no more than the line has." */
    private static void asManyBitsAsWereSent() {
        for (int pattern = 0; pattern <= 4; pattern++) {
            for (int n = 1; n <= 40; n++) {
                Counted x = Counted.of(1, 200, 8, pattern);
                x.put(Rows.noise(n, n));
                x.turn(0, 0x00F3_0A00_C0F1_0B05L);
                x.receive(0);
                Check.same("receive: n, pattern " + pattern, x.told(5), Model.sentBits(x.told(3), pattern));
                Check.same("receive: n is what was sent", x.told(5), n);
            }
        }
    }

    /** "of all rows of n bits, the one that makes a row which differs from the line at the fewest places": all are tried. */
    private static void theNearestOfAll() {
        int n = 10;
        for (int pattern = 0; pattern <= 4; pattern++) {
            String[] rows = new String[1 << n];
            for (int r = 0; r < rows.length; r++) {
                rows[r] = Model.made(Model.binary(r, n), pattern);
            }
            for (int spoil = 0; spoil < 400; spoil++) {
                Counted x = Counted.of(1, 200, 8, pattern);
                x.plain(n, spoil * 77);
                x.turn(0, (spoil * 0x9E3779B97F4A7C15L) >>> 40);
                x.receive(spoil % 9);
                String line = x.lineRow();
                int best = 0;
                for (int r = 1; r < rows.length; r++) {
                    if (Model.distance(rows[r], line) < Model.distance(rows[best], line)) {
                        best = r;
                    }
                }
                String name = "receive: nearest, pattern " + pattern + ", line " + line;
                Check.same(name, x.decodedRow(), Model.binary(best, n));
                Check.same(name + ", differing", x.told(6), Model.distance(rows[best], line));
            }
        }
    }

    /** The longest rows, with few bits spoiled, with many, and with all. */
    private static void theNearestOfLongRows() {
        int[] most = {2048, 2730, 3072, 3413, 3584};
        for (int pattern = 0; pattern <= 4; pattern++) {
            for (int each = 0; each < 4; each++) {
                Counted x = Counted.of(1, 200, 8, pattern);
                x.put(Rows.noise(most[pattern], each));
                int size = x.told(3);
                for (int i = 0; i < size; i += 64) {
                    long noise = Rows.window(Rows.noise(64, i + each), 0);
                    long[] spoils = {0, noise & noise << 1 & noise << 3 & noise << 7, noise, -1};
                    x.turn(i, spoils[each]);
                }
                String line = x.lineRow();
                x.receive(0);
                String due = Model.nearest(line, pattern);
                Check.same("receive: long, pattern " + pattern, x.decodedRow(), due);
                Check.same("receive: long, differing", x.told(6), Model.distance(Model.made(due, pattern), line));
            }
        }
    }

    /** "of those the first one in order (0 before 1 at the first place where they differ)". */
    private static void theFirstInOrder() {
        // One bit: 0 makes 01, 1 makes 10; a line 00 or 11 is as near to one as to the other.
        for (int one = 0; one < 2; one++) {
            for (int turned = 0; turned < 4; turned++) {
                Counted x = new Counted();
                x.plain(1, one);
                x.turn(0, turned);
                x.receive(0);
                String line = x.lineRow();
                Check.same("receive: first in order, " + line, x.decodedRow(), line.equals("10") ? "1" : "0");
                Check.same("receive: differing, " + line, x.told(6), line.equals("01") || line.equals("10") ? 0 : 1);
            }
        }
        // Two bits: 00, 01, 10 and 11 make 0101, 0110, 1011 and 1000. As near as each other are 00 and 01
        // to 0111 and 0100, 10 and 11 to 1001 and 1010; the others have one that is nearest.
        int[] turns = {0b0100, 0b1000, 0b0011, 0b1111, 0b1010, 0b0000, 0b1100, 0b0001, 0b0110};
        String[] due = {"00", "00", "10", "10", "11", "00", "01", "00", "10"};
        for (int n = 0; n < turns.length; n++) {
            Counted x = new Counted();
            x.plain(2, 0);
            x.turn(0, turns[n]);
            x.receive(0);
            Check.same("receive: first in order, " + x.lineRow(), x.decodedRow(), due[n]);
        }
    }

    /** "while there are 32 bits and those of a block from p on": with a bit less nothing is taken. */
    private static void thirtyTwoBitsAndABlock() {
        for (int before = 0; before <= 3; before++) {
            Counted x = smallest("0".repeat(before) + Model.MARK + BLOCK.substring(0, 199));
            Check.same("receive: a bit is missing", x.receive(0), 0);
            x.put(BLOCK.substring(199));
            Check.same("receive: it came", x.receive(0), 1);
            Check.same("receive: place", x.block(0, 0), 32 + before);
            Check.same("receive: good", x.block(0, 4), 1);
        }
        Counted mark = smallest(Model.MARK);
        Check.same("receive: a mark alone", mark.receive(8), 0);
        Counted two = smallest(Model.MARK + BLOCK + Model.MARK + BLOCK.substring(1));
        Check.same("receive: the second has a bit less", two.receive(8), 1);
        Check.same("receive: just that bit less", two.told(5), 463);
    }

    /** "If w is not above T": each number of wrong bits with each limit. */
    private static void marksUpToTheLimit() {
        for (int wrong = 0; wrong <= 10; wrong++) {
            for (int limit = 0; limit <= 8; limit++) {
                Counted x = smallest("0".repeat(11) + Rows.mark(wrong) + BLOCK);
                String name = "receive(" + limit + ") of a mark with " + wrong + " wrong";
                Check.same(name, x.receive(limit), wrong <= limit ? 1 : 0);
                Check.same(name + ": place", places(x), wrong <= limit ? " 43:" + wrong : "");
            }
        }
        for (int b = 0; b < 32; b++) {
            Counted x = smallest(Rows.turned(Model.MARK, b, b + 1) + BLOCK);
            Check.same("receive(0), mark without bit " + b, x.receive(0), 0);
            Check.same("receive(1), mark without bit " + b, x.receive(1), 1);
        }
    }

    /** "a place p, 0 at first ... Otherwise p goes on by one": a mark is found wherever it is. */
    private static void fromEveryPlace() {
        for (int before = 0; before <= 70; before++) {
            Counted x = smallest("0".repeat(before) + Model.MARK + BLOCK + "0".repeat(before % 3));
            Check.same("receive: behind " + before, x.receive(0), 1);
            Check.same("receive: behind " + before + ", place", x.block(0, 0), 32 + before);
        }
        Counted last = smallest("0".repeat(3584 - 232) + Model.MARK + BLOCK);
        Check.same("receive: at the very end", last.receive(0), 1);
        Check.same("receive: at the very end, place", last.block(0, 0), 3384);
    }

    /** The least line: far too short for a block. */
    private static void oneBitOnly() {
        for (int pattern = 0; pattern <= 4; pattern++) {
            Counted x = Counted.of(1, 230, 8, pattern);
            x.plain(1, 1);
            Check.same("receive: one bit", x.receive(8), 0);
            Check.same("receive: one bit is decoded", x.decodedRow(), "1");
        }
    }

    /** "p goes on behind it": marks inside a block are none, and what is before them is lost with it. */
    private static void notInsideABlock() {
        Counted inside = smallest(Model.MARK + Model.MARK + BLOCK);
        Check.same("receive: a mark inside a block", inside.receive(0), 1);
        Check.same("receive: the first one counts", places(inside), " 32:0");
        Counted later = smallest(Model.MARK + "0".repeat(100) + Model.MARK + BLOCK + Model.MARK + BLOCK);
        Check.same("receive: the next one behind it is missed", later.receive(0), 2);
        Check.same("receive: places", places(later).startsWith(" 32:0 264:") ? 1 : 0, 1);
    }

    /** "or the block before was taken and ended at p, and was not a MISSED one ... a missed one if w is above T". */
    private static void behindABlock() {
        for (int wrong : new int[] {0, 2, 3, 8, 9, 16, 32}) {
            Counted x = smallest(Model.MARK + BLOCK + Rows.mark(wrong) + BLOCK);
            Check.same("receive: behind a block, wrong " + wrong, x.receive(2), 2);
            Check.same("receive: behind a block, places", places(x), " 32:0 264:" + wrong);
            Check.same("receive: behind a block, good", x.block(1, 4), 1);
        }
        Counted none = smallest(SPOILED + BLOCK + Model.MARK + BLOCK);
        Check.same("receive: no block before", none.receive(0), 1);
        Check.same("receive: no block before, place", places(none), " 264:0");
    }

    /** Behind a missed one a mark is needed: one within the limit makes it a block that is not missed. */
    private static void behindAMissedOne() {
        Counted x = smallest(Model.MARK + BLOCK + SPOILED + BLOCK + SPOILED + BLOCK + Model.MARK + BLOCK);
        Check.same("receive: behind a missed one", x.receive(2), 3);
        Check.same("receive: behind a missed one, places", places(x), " 32:0 264:32 728:0");
        Counted y = smallest(Model.MARK + BLOCK + Rows.mark(3) + BLOCK + Rows.mark(2) + BLOCK + Rows.mark(3) + BLOCK);
        Check.same("receive: missed, marked, missed", y.receive(2), 4);
        Check.same("receive: missed, marked, missed, places", places(y), " 32:0 264:3 496:2 728:3");
        Counted z = smallest(Model.MARK + BLOCK + Rows.mark(3) + BLOCK + Rows.mark(3) + BLOCK);
        Check.same("receive: two missed ones", z.receive(2), 2);
        Check.same("receive: none of them with the limit 3", z.receive(3), 3);
    }

    /** "ended at p": the block behind begins there, though there is a mark a place later. */
    private static void whereTheBlockEnded() {
        Counted x = smallest(Model.MARK + BLOCK + "1" + Model.MARK + BLOCK);
        Check.same("receive: a mark a place later", x.receive(0), 2);
        Check.same("receive: the place where the block ended", x.block(1, 0), 264);
        Check.holds("receive: a missed one", x.block(1, 1) > 8);
        Check.same("receive: and not good", x.block(1, 4), 0);
        Counted y = smallest(Model.MARK + BLOCK + SPOILED + BLOCK + "1" + SPOILED + BLOCK);
        Check.same("receive: a place behind a missed one", y.receive(0), 2);
        Counted z = smallest(Model.MARK + BLOCK + SPOILED + BLOCK + "1" + Model.MARK + BLOCK);
        Check.same("receive: a mark a place behind a missed one", z.receive(0), 3);
        Check.same("receive: where it is", places(z), " 32:0 264:32 497:0");
    }

    /** A missed one needs its 32 bits and its block as any other does. */
    private static void missedAtTheEnd() {
        Counted x = smallest(Model.MARK + BLOCK + "0".repeat(231));
        Check.same("receive: 231 bits behind", x.receive(0), 1);
        x.plain(1, 0);
        Check.same("receive: 232 bits behind", x.receive(0), 2);
        Check.same("receive: a missed one of nothing", x.block(1, 0), 264);
        x.put("0".repeat(232));
        Check.same("receive: no second missed one", x.receive(0), 2);
    }

    /** "Answers how many blocks were taken.": as many as the line has room for. */
    private static void mostBlocks() {
        Counted x = Counted.of(Counted.SMALLEST_DENSE);
        for (int n = 0; n < 15; n++) {
            x.sendFrame(n % 8);
        }
        Check.same("receive: most blocks", x.receive(0), 15);
        for (int k = 0; k < 15; k++) {
            Check.same("receive: place " + k, x.block(k, 0), 32 + 232 * k);
            Check.same("receive: good " + k, x.block(k, 4), 1);
            Check.same("receive: count " + k, x.frame(k, 2) & 255, k);
        }
        Check.refused("receive: no more", () -> x.block(15, 0), IndexOutOfBoundsException.class);
    }

    /** The line, data, counts and the code are as before: the sender goes on. */
    private static void leavesTheSenderAlone() {
        Counted x = sending();
        String line = x.lineRow();
        for (int limit = 0; limit <= 8; limit++) {
            x.receive(limit);
        }
        Check.same("receive: the line stays", x.lineRow(), line);
        Check.same("receive: the sender goes on", x.comes(), sending().comes());
    }

    private static Counted sending() {
        Counted x = Counted.of(1, 225, 8, 4);
        x.craft(55);
        x.sendFrame(6);
        x.skip(6);
        x.plain(5, 19);
        x.data(4, 0x01020304);
        x.turn(77, 1023);
        return x;
    }
}
