/** Promise 4: told. */
public final class ToldTest {
    public static void main(String[] args) {
        edges();
        bytesOfFrameDataAndBlock();
        bitsOfTheLine();
        dataThatWait();
        bitsThatWereDecoded();
        bitsThatDiffer();
        blocksThatWereTaken();
        staysAsItWasReceived();
        isReceivedAnew();
        Check.end();
    }

    /** "IllegalArgumentException: another what." */
    private static void edges() {
        for (int what = 0; what <= 7; what++) {
            int known = what;
            Check.holds("told(" + what + ")", !Check.outcome(() -> new Counted().told(known)).startsWith("throws"));
        }
        for (int wrong : new int[] {-2, -1, 8, 9}) {
            Check.refused("told(" + wrong + ")", () -> new Counted().told(wrong), IllegalArgumentException.class);
        }
        for (int far : Rows.FAR) {
            Check.refused("told(" + far + ")", () -> new Counted().told(far), IllegalArgumentException.class);
        }
    }

    /** "How many bytes a frame has (what = 0), its data (1), a block (2)". */
    private static void bytesOfFrameDataAndBlock() {
        int[][] due = {{1, 230, 8, 9, 1, 25}, {1, 5, 8, 234, 226, 250}, {1, 5, 16, 218, 210, 250},
            {3, 200, 16, 69, 61, 165}, {8, 224, 8, 120, 112, 248}, {8, 237, 8, 16, 8, 144}};
        for (int[] d : due) {
            Counted x = Counted.of(d[0], d[1], d[2], 2);
            for (int what = 0; what <= 2; what++) {
                Check.same("told(" + what + ") of " + d[0] + ", " + d[1], x.told(what), d[3 + what]);
            }
        }
    }

    /** "how many bits the line has (3)": none, one sent bit, and as many as there can be. */
    private static void bitsOfTheLine() {
        int[] most = {2048, 2730, 3072, 3413, 3584};
        int[] full = {4096, 4095, 4096, 4096, 4096};
        for (int pattern = 0; pattern <= 4; pattern++) {
            Counted x = Counted.of(1, 200, 8, pattern);
            Check.same("told(3): none", x.told(3), 0);
            x.plain(1, 1);
            Check.same("told(3): of one sent bit", x.told(3), 2);
            x.put("0".repeat(most[pattern] - 1));
            Check.same("told(3): full, pattern " + pattern, x.told(3), full[pattern]);
        }
    }

    /** "bytes of data wait (4)": none, some, as many as a frame has, and none when it is sent. */
    private static void dataThatWait() {
        Counted x = Counted.of(1, 5, 8, 4);
        Check.same("told(4): none", x.told(4), 0);
        x.data(1, 0);
        Check.same("told(4): one", x.told(4), 1);
        x.fillData(0);
        Check.same("told(4): all", x.told(4), 226);
        x.send(0);
        Check.same("told(4): sent", x.told(4), 0);
    }

    /** "bits were decoded (5)": none before, as many as were sent then. */
    private static void bitsThatWereDecoded() {
        for (int pattern = 0; pattern <= 4; pattern++) {
            for (int n = 1; n <= 16; n++) {
                Counted x = Counted.of(1, 200, 8, pattern);
                x.plain(n, 0x5A5A);
                Check.same("told(5): not received yet", x.told(5), 0);
                x.receive(0);
                Check.same("told(5): pattern " + pattern + ", bits " + n, x.told(5), n);
            }
        }
    }

    /** "differ there (6)". */
    private static void bitsThatDiffer() {
        Counted x = new Counted();
        x.sendFrame(0);
        x.receive(0);
        Check.same("told(6): none", x.told(6), 0);
        x.turn(0, 1);
        x.turn(500, 1);
        x.turn(943, 1);
        Check.same("told(6): not received yet", x.told(6), 0);
        x.receive(0);
        Check.same("told(6): three", x.told(6), 3);
        x.turn(500, 1);
        x.receive(0);
        Check.same("told(6): two", x.told(6), 2);
    }

    /** "blocks were taken" (7): none, and as many as the line has room for. */
    private static void blocksThatWereTaken() {
        Counted x = Counted.of(Counted.SMALLEST_DENSE);
        for (int n = 0; n < 15; n++) {
            x.sendFrame(n % 8);
            Check.same("told(7): not received yet", x.told(7), n == 0 ? 0 : n);
            x.receive(0);
            Check.same("told(7): so many", x.told(7), n + 1);
        }
        x.data(1, 1);
        Check.same("told(7): no more", x.send(0), Counted.NONE);
    }

    /** "5 to 7, and decoded(), block(), word(), frame(), as receive() found them last, whatever the line became". */
    private static void staysAsItWasReceived() {
        Counted x = received();
        x.turn(0, -1);
        x.turn(64, -1);
        x.plain(64, 99);
        x.skip(2);
        x.craft(9);
        x.sendFrame(2);
        Check.refused("told: a receive refused", () -> x.receive(9), IllegalArgumentException.class);
        Check.same("told: the line goes on", x.told(3), 2016);
        Check.same("told: what was received stays", receivedPart(x), receivedPart(received()));
        Check.same("told: decoded bits", x.told(5), 472);
        Check.same("told: differing bits", x.told(6), 1);
        Check.same("told: blocks", x.told(7), 1);
    }

    private static Counted received() {
        Counted x = new Counted();
        x.sendFrame(4);
        x.turn(100, 1);
        x.receive(0);
        return x;
    }

    private static String receivedPart(Counted x) {
        String seen = x.seen();
        return x.told(5) + " " + x.told(6) + seen.substring(seen.indexOf("decoded"));
    }

    /** A receive anew replaces all of it, also by less. */
    private static void isReceivedAnew() {
        Counted x = Counted.of(Counted.SMALLEST);
        x.sendFrame(1);
        x.sendFrame(2);
        Check.same("told: two blocks", x.receive(0), 2);
        x.turn(0, -1);
        x.turn(464, -1);
        Check.same("told: none then", x.receive(0), 0);
        Check.same("told(7): none then", x.told(7), 0);
        Check.holds("told(6): some differ then", x.told(6) > 0);
        Check.refused("block: none then", () -> x.block(0, 0), IndexOutOfBoundsException.class);
        Check.refused("word: none then", () -> x.word(0, 0), IndexOutOfBoundsException.class);
        Check.refused("frame: none then", () -> x.frame(0, 0), IndexOutOfBoundsException.class);
    }
}
