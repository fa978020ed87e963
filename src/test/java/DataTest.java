/** Promise 5: data. */
public final class DataTest {
    public static void main(String[] args) {
        edges();
        refused();
        lowestBytesFirst();
        asManyAsAFrameHas();
        tooMany();
        oneByteOfData();
        allBytes();
        beginsAnewWhenSent();
        Check.end();
    }

    /** "n is not 1 .. 8": all that it is; "Answers how many there are". */
    private static void edges() {
        Counted x = new Counted();
        int due = 0;
        for (int n : new int[] {1, 8, 2, 7, 3, 6, 4}) {
            due += n;
            Check.same("data(" + n + ")", x.data(n, -1), due);
            Check.same("data(" + n + ") wait", x.told(4), due);
        }
        Check.same("data: all", due, 31);
        Counted five = new Counted();
        Check.same("data(5)", five.data(5, 0), 5);
    }

    /** One behind either end, and far off, with no data, with some, and with no room left. */
    private static void refused() {
        for (int wrong : new int[] {-8, -1, 0, 9, 10, 64}) {
            refused(wrong);
        }
        for (int far : Rows.FAR) {
            refused(far);
        }
    }

    private static void refused(int wrong) {
        Counted x = new Counted();
        for (int some : new int[] {0, 3, 31}) {
            while (x.told(4) < some) {
                x.data(1, 7);
            }
            Check.refused("data(" + wrong + ") behind " + some, () -> x.data(wrong, -1), IllegalArgumentException.class);
            Check.same("data(" + wrong + ") changes nothing", x.told(4), some);
        }
    }

    /** "The n lowest bytes of a long, the lowest first, come behind the data." */
    private static void lowestBytesFirst() {
        for (int n = 1; n <= 8; n++) {
            Counted x = new Counted();
            x.data(2, 0xBBAA);
            x.data(n, 0x8877665544332211L);
            x.fillData(0);
            x.send(0);
            x.receive(0);
            long due = n == 8 ? 0x8877665544332211L : 0x8877665544332211L & ((1L << 8 * n) - 1);
            Check.same("data(" + n + "): before", x.frame(0, 6) & 0xFFFF, 0xBBAA);
            Check.same("data(" + n + "): its bytes and no more", x.frame(0, 8), due);
        }
    }

    /** All the data a frame has, to the last one, in the smallest and in the greatest frame. */
    private static void asManyAsAFrameHas() {
        int[][] forms = {{1, 230, 8, 1}, {1, 5, 8, 226}, {1, 214, 16, 1}, {1, 5, 16, 210}, {8, 237, 8, 8}, {8, 224, 8, 112}};
        for (int[] form : forms) {
            Counted x = Counted.of(form[0], form[1], form[2], 0);
            for (int n = 1; n <= form[3]; n++) {
                Check.same("data: " + n + " of " + form[3], x.data(1, n), n);
            }
            Check.same("data: one too many, of " + form[3], x.data(1, 1), Counted.NONE);
            Check.same("data: none came", x.told(4), form[3]);
        }
    }

    /** "NONE when there would be more than a frame has": by one or by all, none of them come. */
    private static void tooMany() {
        for (int n = 1; n <= 8; n++) {
            for (int left = 0; left <= 8; left++) {
                Counted x = new Counted();
                for (int i = 0; i < 31 - left; i++) {
                    x.data(1, 100 + i);
                }
                String name = "data(" + n + ") with room for " + left;
                Check.same(name, x.data(n, -1), n > left ? Counted.NONE : 31 - left + n);
                Check.same(name + ": wait", x.told(4), n > left ? 31 - left : 31 - left + n);
                x.fillData(0);
                x.send(0);
                x.receive(0);
                long due = n > left ? 0 : n == 8 ? -1 : (1L << 8 * n) - 1;
                long mask = left == 8 ? -1 : (1L << 8 * left) - 1;
                Check.same(name + ": behind", x.frame(0, 37 - left) & mask, due);
                Check.same(name + ": before", x.frame(0, 6) & 255, 100);
                Check.same(name + ": the last before", x.frame(0, 36 - left) & 255, 130 - left);
            }
        }
    }

    /** The least data a frame can have: "NONE when there would be more than a frame has". */
    private static void oneByteOfData() {
        Counted x = Counted.of(Counted.SMALLEST);
        for (int n = 2; n <= 8; n++) {
            Check.same("data(" + n + ") of one", x.data(n, 5), Counted.NONE);
            Check.same("data(" + n + ") of one: none came", x.told(4), 0);
        }
        Check.same("data: the only one", x.data(1, 0x2FF), 1);
        x.send(0);
        x.receive(0);
        Check.same("data: the only one came", x.frame(0, 6) & 255, 255);
        Check.same("data: the only one, good", x.block(0, 4), 1);
    }

    /** "each byte is the other form of just one element": all values come back. */
    private static void allBytes() {
        int[] form = {1, 5, 8, 4};
        for (int from = 0; from < 256; from += 128) {
            Counted x = Counted.of(form);
            Model m = Rows.model(form);
            for (int n = 0; n < 226; n++) {
                x.data(1, from + n & 255);
                m.data(1, from + n & 255);
            }
            x.send(0);
            m.send(0);
            Check.same("data: all bytes from " + from, x.lineRow(), m.line.toString());
            x.receive(0);
            for (int n = 0; n < 226; n++) {
                Check.same("data: byte " + n, x.frame(0, 6 + n) & 255, from + n & 255);
            }
        }
    }

    /** Data of the frame before are gone: those of the next one begin where these began. */
    private static void beginsAnewWhenSent() {
        Counted x = Counted.of(1, 225, 8, 0);
        x.fillData(-1);
        x.send(0);
        Check.same("data: anew", x.data(1, 1), 1);
        Check.same("data: and on", x.data(5, 0x0605040302L), 6);
        x.send(0);
        x.receive(0);
        Check.same("data: of the first", x.frame(0, 6) & 0xFFFFFFFFFFFFL, 0xFFFFFFFFFFFFL);
        Check.same("data: of the next", x.frame(1, 6) & 0xFFFFFFFFFFFFL, 0x060504030201L);
    }
}
