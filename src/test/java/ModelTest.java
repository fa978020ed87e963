import java.util.ArrayList;
import java.util.List;
import java.util.Random;

/** Long runs of calls, the same every time, on the class and on the model of the document. */
public final class ModelTest {
    private static final List<int[]> FORMS = forms();

    public static void main(String[] args) {
        for (int seed = 0; seed < 100; seed++) {
            mixedRun(seed);
        }
        for (int seed = 0; seed < 60; seed++) {
            for (int limit = 0; limit <= 8; limit += 4) {
                craftedRun(seed, limit);
            }
        }
        everyFormOnce();
        Check.end();
    }

    private static List<int[]> forms() {
        List<int[]> forms = new ArrayList<>();
        Model m = new Model();
        for (int depth : new int[] {1, 2, 3, 4, 5, 8}) {
            for (int fill = 0; fill <= 250; fill++) {
                for (int e = 8; e <= 16; e += 8) {
                    int[] form = {depth, fill, e, 0};
                    if (!Check.outcome(() -> {
                        m.form(form[0], form[1], form[2], form[3]);
                        return 0;
                    }).startsWith("throws")) {
                        forms.add(form);
                    }
                }
            }
        }
        return forms;
    }

    private static void chooseForm(Twin twin, Random random) {
        int[] form = FORMS.get(random.nextInt(FORMS.size()));
        twin.form(form[0], form[1], form[2], random.nextInt(5));
    }

    /** Any calls in any order, wrong ones among them. */
    private static void mixedRun(int seed) {
        Random random = new Random(seed);
        Twin twin = new Twin("mixed run " + seed);
        // A step may fill the data of the greatest frame, with 29 calls.
        while (twin.callsLeft() > 200) {
            mixedStep(twin, random);
        }
        twin.receive(random.nextInt(9));
        twin.askAll();
    }

    private static void mixedStep(Twin twin, Random random) {
        switch (random.nextInt(38)) {
            case 0 -> chooseForm(twin, random);
            case 1 -> twin.form(random.nextInt(10), random.nextInt(256) - 2, 8 * random.nextInt(3), random.nextInt(7) - 1);
            case 2, 3 -> twin.craft(random.nextInt(1028) - 2);
            case 4 -> twin.data(random.nextInt(11) - 1, random.nextLong());
            case 5, 6 -> twin.send(random.nextInt(10) - 1);
            case 7, 8, 9, 10, 11, 12 -> {
                twin.fillData(random);
                twin.send(random.nextInt(8));
            }
            case 13, 14, 15 -> twin.plain(random.nextInt(68) - 1, random.nextLong());
            case 16, 17 -> twin.skip(random.nextInt(10) - 1);
            case 18, 19, 20 -> twin.turn(anyPlace(twin, random), random.nextLong());
            case 21, 22, 23, 24, 25 -> spoil(twin, random);
            case 26, 27, 28, 29 -> twin.receive(random.nextInt(11) - 1);
            case 30 -> twin.told(random.nextInt(10) - 1);
            case 31 -> twin.line(anyPlace(twin, random));
            case 32 -> twin.decoded(anyPlace(twin, random));
            case 33, 34 -> twin.block(random.nextInt(6) - 1, random.nextInt(11) - 1);
            case 35, 36 -> twin.word(random.nextInt(6) - 1, random.nextInt(10) - 1);
            default -> twin.frame(random.nextInt(6) - 1, random.nextInt(280) - 15);
        }
    }

    private static int anyPlace(Twin twin, Random random) {
        switch (random.nextInt(12)) {
            case 0:
                return Integer.MIN_VALUE + random.nextInt(70);
            case 1:
                return Integer.MAX_VALUE - random.nextInt(70);
            case 2:
                return 4096 - random.nextInt(140) + 70;
            default:
                return random.nextInt(twin.m.told(3) + 140) - 70;
        }
    }

    /** A few bits far apart, or a burst that the code alone can't bear. */
    private static void spoil(Twin twin, Random random) {
        int size = twin.m.told(3);
        if (size == 0) {
            return;
        }
        if (random.nextBoolean()) {
            twin.turn(random.nextInt(size), 1L << random.nextInt(64) | 1L << random.nextInt(64));
        } else {
            long burst = random.nextLong() >>> random.nextInt(60);
            twin.turn(random.nextInt(size), burst);
        }
    }

    /** Blocks made by the model, with bytes and marks spoiled by count, sent as plain bits. */
    private static void craftedRun(int seed, int limit) {
        Random random = new Random(1000 + 9 * seed + limit);
        Twin twin = new Twin("crafted run " + seed + ", limit " + limit);
        chooseForm(twin, random);
        twin.plainBits(randomBits(random.nextInt(50), random));
        Model m = twin.m;
        while (roomFor(m)) {
            if (random.nextInt(4) == 0) {
                twin.plainBits(randomBits(1 + random.nextInt(20), random));
            }
            twin.plainBits(spoiledMark(random.nextInt(12), random));
            twin.plainBits(m.bitsOf(spoiledBlock(m, random)));
        }
        twin.receive(limit);
        twin.askAll();
    }

    private static boolean roomFor(Model m) {
        int bits = m.sent.length() + 32 + 8 * m.told(2) + 20;
        return bits <= Model.sentBits(4096, m.pattern);
    }

    private static String randomBits(int n, Random random) {
        StringBuilder row = new StringBuilder();
        for (int i = 0; i < n; i++) {
            row.append(random.nextInt(2));
        }
        return row.toString();
    }

    private static String spoiledMark(int wrong, Random random) {
        StringBuilder mark = new StringBuilder(Model.MARK);
        for (int i = 0; i < wrong; i++) {
            int at = random.nextInt(32);
            mark.setCharAt(at, (char) ('0' + random.nextInt(2)));
        }
        return mark.toString();
    }

    private static int[] spoiledBlock(Model m, Random random) {
        int[] frame = new int[m.told(0)];
        for (int i = 0; i < frame.length; i++) {
            frame[i] = random.nextInt(256);
        }
        if (random.nextInt(5) != 0) {
            Model.withCheck(frame);
        }
        int[] block = m.blockOf(frame);
        int size = m.wordBytes();
        for (int j = 0; j < m.depth; j++) {
            int wrong = wrongBytes(m.e, random);
            int from = random.nextInt(size);
            for (int i = 0; i < Math.min(wrong, size); i++) {
                block[(from + i) % size * m.depth + j] ^= 1 + random.nextInt(255);
            }
        }
        return block;
    }

    private static int wrongBytes(int e, Random random) {
        int[] counts = {0, 0, 0, 1, 2, e - 1, e, e, e, e + (random.nextInt(4) == 0 ? 1 : 0), e, 2 * e};
        return counts[random.nextInt(counts.length)];
    }

    private static void everyFormOnce() {
        Random random = new Random(7);
        for (int n = 0; n < FORMS.size(); n += 5) {
            int[] form = FORMS.get(n);
            Twin twin = new Twin("form " + form[0] + ", " + form[1] + ", " + form[2]);
            twin.form(form[0], form[1], form[2], n % 5);
            twin.fillData(random);
            twin.send(n % 8);
            twin.turn(random.nextInt(twin.m.told(3)), random.nextLong() >>> 20);
            twin.receive(4);
            twin.askAll();
        }
    }
}
