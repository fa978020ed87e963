/** Promise 3: craft. */
public final class CraftTest {
    public static void main(String[] args) {
        edges();
        refused();
        answersWhatItWas();
        isInFramesSentThen();
        Check.end();
    }

    /** "it is not 0 .. 1023". */
    private static void edges() {
        for (int craft : new int[] {0, 1, 1022, 1023}) {
            Counted x = new Counted();
            Check.same("craft(" + craft + ")", x.craft(craft), 0);
            Check.same("craft(" + craft + ") came", x.craft(0), craft);
        }
    }

    /** One behind either end, and far off; the craft stays. */
    private static void refused() {
        for (int wrong : new int[] {-2, -1, 1024, 1025, 65536, -65536}) {
            refused(wrong);
        }
        for (int far : Rows.FAR) {
            refused(far);
        }
    }

    private static void refused(int wrong) {
        Counted x = new Counted();
        x.craft(682);
        Check.refused("craft(" + wrong + ")", () -> x.craft(wrong), IllegalArgumentException.class);
        Check.same("craft(" + wrong + ") changes nothing", x.craft(0), 682);
    }

    /** "The craft becomes another one. Answers what it was." */
    private static void answersWhatItWas() {
        Counted x = new Counted();
        int before = 0;
        for (int craft = 0; craft < 1024; craft += 33) {
            Check.same("craft(" + craft + ")", x.craft(craft), before);
            before = craft;
        }
        Check.same("craft: the same again", x.craft(before), before);
        Check.same("craft: the greatest", before, 1023);
    }

    /** "the craft (10 bits) times 16 and the channel (3 bits) times 2 together, the higher eight bits first". */
    private static void isInFramesSentThen() {
        for (int craft : new int[] {0, 1, 15, 16, 255, 256, 511, 512, 1022, 1023}) {
            for (int channel = 0; channel < 8; channel += 7) {
                Counted x = Counted.of(Counted.SMALLEST);
                x.sendFrame(channel);
                x.craft(craft);
                x.sendFrame(channel);
                x.craft(5);
                x.receive(0);
                String name = "craft " + craft + ", channel " + channel;
                int due = craft * 16 + channel * 2;
                Check.same(name + ": byte 0", x.frame(1, 0) & 255, due / 256);
                Check.same(name + ": byte 1", x.frame(1, 1) & 255, due % 256);
                Check.same(name + ": read", x.block(1, 5), craft);
                Check.same(name + ": channel read", x.block(1, 6), channel);
                Check.same(name + ": not in the one before", x.block(0, 5), 0);
            }
        }
    }
}
