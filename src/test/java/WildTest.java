import java.util.Random;

/** Wrong numbers of all kinds: no call throws, and what is refused changes nothing. */
public final class WildTest {
    private static final Check CHECK = new Check("WildTest");
    private static final int[] NUMBERS = {
        Integer.MIN_VALUE, Integer.MIN_VALUE + 1, -100001, -101, -100, -5, -1, 0, 1, 2, 3, 4, 7, 8, 9, 10, 19, 20, 30,
        31, 39, 40, 59, 60, 61, 100, 101, 102, 200, 201, 398, 399, 400, 1001, 1101, 1918, 2101, 3101, 9399, 9999, 13101,
        93430, 99999, 100000, Integer.MAX_VALUE - 1, Integer.MAX_VALUE};

    private WildTest() { }

    public static void main(String[] args) {
        for (int seed = 0; seed < 60; seed++) play(new Random(seed), seed);
        CHECK.end();
    }

    private static void play(Random random, int seed) {
        CHECK.part("seed " + seed);
        RoadWorks x = new RoadWorks();
        if (seed % 3 != 0) settle(x, random, seed % 3 == 2);
        for (int i = 0; i < 300; i++) {
            String before = state(x);
            int call = random.nextInt(23);
            int answer;
            try {
                answer = ask(x, call, random);
            } catch (RuntimeException e) {
                CHECK.holds("call " + call + " of no exception, but " + e, false);
                return;
            }
            boolean asks = call == 5 || call == 6 || call >= 14;
            if (asks && call != 19 || answer < 0) CHECK.holds("call " + call + " changes nothing", state(x).equals(before));
        }
    }

    private static void settle(RoadWorks x, Random random, boolean full) {
        for (int i = 0; i < (full ? 40 : 5); i++) {
            x.piece(100 * (i % 5) + (i + 1) % 5, 1 + i % 4, i % 3, 1 + i % 30, i % 61);
        }
        for (int i = 0; i < (full ? 8 : 2); i++) x.pair(i % 4, 4, 20 + i);
        for (int i = 0; i < (full ? 60 : 8); i++) {
            x.work(10000 * (i % 10) + 1000 * (i % 4) + 100 * (1 + i % 2) + 1 + i % 30, 1000 * (1 + i % 9) + i, i % 5);
            x.more(i, (i + 1) % 5);
            int d = x.first(i, random.nextInt(100), 100);
            x.permit(i, d);
        }
        x.day(1 + random.nextInt(60));
    }

    private static int ask(RoadWorks x, int call, Random random) {
        int[] n = new int[5];
        for (int i = 0; i < 5; i++) {
            n[i] = random.nextInt(4) == 0 ? random.nextInt() : NUMBERS[random.nextInt(NUMBERS.length)];
        }
        return switch (call) {
            case 0 -> x.piece(n[0], n[1], n[2], n[3], n[4]);
            case 1 -> x.pair(n[0], n[1], n[2]);
            case 2 -> x.feast(n[0], n[1]);
            case 3 -> x.work(n[0], n[1], n[2]);
            case 4 -> x.more(n[0], n[1]);
            case 5 -> x.may(n[0], n[1]);
            case 6 -> x.first(n[0], n[1], n[2]);
            case 7 -> x.permit(n[0], n[1]);
            case 8 -> x.withdraw(n[0]);
            case 9 -> x.day(n[0]);
            case 10 -> x.over(n[0], n[1]);
            case 11 -> x.crash(n[0]);
            case 12 -> x.join(n[0], n[1]);
            case 13 -> x.join(n[0] & 63, n[1] & 63);
            case 14 -> x.about(n[0], n[1]);
            case 15 -> x.lanes(n[0], n[1]);
            case 16 -> x.way(n[0], n[1]);
            case 17 -> x.shut(n[0]);
            case 18 -> x.price();
            case 19 -> x.better();
            case 20 -> x.book(n[0], n[1]);
            case 21 -> x.count(n[0]);
            default -> x.why(n[0]);
        };
    }

    /** All that can be asked without a change, feasts and why() left out. */
    private static String state(RoadWorks x) {
        StringBuilder all = new StringBuilder();
        for (int what = 0; what <= 8; what++) all.append(x.count(what)).append(' ');
        for (int w = 0; w < x.count(2); w++) {
            for (int what = 0; what <= 10; what++) all.append(x.about(w, what)).append(' ');
        }
        for (int p = 0; p < x.count(0); p += 7) {
            for (int d = 0; d < 400; d += 9) all.append(x.lanes(p, d)).append(' ');
        }
        return all.append(x.shut(20)).append(' ').append(x.price()).toString();
    }
}
