import java.util.Random;

/** Random runs of calls (from told seeds, so always the same ones) on the program and on the slow Model. */
public final class ModelTest {
    private static final Check CHECK = new Check("ModelTest");
    private static final int RUNS = 400, KNOTS = 1000;

    private final Random random;
    private final int run;
    private final RoadWorks x = new RoadWorks();
    private final Model m = new Model();
    private int crossings;
    private int longest;
    private int wild;
    private int spread;

    private ModelTest(int run) {
        this.run = run;
        random = new Random(run);
    }

    public static void main(String[] args) {
        for (int run = 0; run < RUNS && CHECK.wrong() == 0; run++) new ModelTest(run).play();
        for (int run = 0; run < KNOTS && CHECK.wrong() == 0; run++) new ModelTest(run).knot();
        CHECK.end();
    }

    private void play() {
        crossings = 3 + random.nextInt(run % 7 == 0 ? 17 : 5);
        longest = run % 3 == 0 ? 30 : 8;
        wild = run % 5 == 0 ? 4 : 40;
        spread = new int[] {20, 60, 150, 400}[run % 4];
        CHECK.part("run " + run);
        int calls = 0;
        int pieces = run % 11 == 0 ? 42 : 2 + random.nextInt(10);
        for (int i = 0; i < pieces; i++, calls++) piece();
        int pairs = random.nextInt(run % 11 == 0 ? 10 : 5);
        for (int i = 0; i < pairs; i++, calls++) pair();
        while (calls++ < 512 && CHECK.wrong() == 0) call();
        compareAll();
    }

    /**
     * Few streets, full of works, in a net that grows only then: works that are PERMITTED already break rules, and
     * each move and each bettering of one is a matter of others.
     */
    private void knot() {
        crossings = 3;
        longest = 6;
        wild = 1000000;
        spread = 12;
        CHECK.part("knot " + run);
        for (int i = 0; i < 4; i++) piece();
        if (run % 4 == 0) twins();
        for (int i = 0; i < 10; i++) {
            work();
            if (random.nextInt(3) == 0) more();
            permitFirst(m.jobs.size() - 1);
        }
        for (int i = 0; i < 3; i++) pair();
        for (int i = 0; i < 20 && CHECK.wrong() == 0; i++) {
            switch (random.nextInt(8)) {
                case 0 -> due("withdraw(" + i % 10 + ")", x.withdraw(i % 10), m.withdraw(i % 10));
                case 1 -> due("day(1)", x.day(1), m.day(1));
                case 2 -> over();
                case 3 -> crash();
                case 4 -> piece();
                case 5 -> permitFirst(aWork());
                default -> due("better()", x.better(), m.better());
            }
        }
        compareAll();
    }

    private int upTo(int most) {
        if (random.nextInt(wild) == 0) {
            return switch (random.nextInt(6)) {
                case 0 -> -1;
                case 1 -> Integer.MIN_VALUE;
                case 2 -> Integer.MAX_VALUE;
                case 3 -> most + 1;
                case 4 -> -random.nextInt(1000);
                default -> random.nextInt();
            };
        }
        return random.nextInt(Math.max(1, most + 1));
    }

    private int aWork() {
        return upTo(m.jobs.size() - 1);
    }

    private int aPiece() {
        return upTo(m.streets.size() - 1);
    }

    private int aDay() {
        return random.nextInt(6) == 0 ? upTo(399) : Math.min(399, m.today + upTo(spread));
    }

    private void due(String call, int got, int want) {
        CHECK.due(call, got, want);
    }

    private void piece() {
        int ends = 100 * upTo(crossings - 1) + upTo(crossings - 1);
        int lanes = random.nextInt(3) == 0 ? upTo(4) : 1 + random.nextInt(2);
        int rank = upTo(2), minutes = 1 + upTo(29), rest = random.nextInt(3) == 0 ? upTo(60) : upTo(4);
        due("piece(" + ends + ", " + lanes + ", " + rank + ", " + minutes + ", " + rest + ")",
            x.piece(ends, lanes, rank, minutes, rest), m.piece(ends, lanes, rank, minutes, rest));
    }

    private void pair() {
        int a = upTo(crossings - 1), b = upTo(crossings - 1), limit = random.nextInt(3) == 0 ? 200 : 1 + upTo(60);
        due("pair(" + a + ", " + b + ", " + limit + ")", x.pair(a, b, limit), m.pair(a, b, limit));
    }

    private void work() {
        int sort = random.nextInt(9) == 0 ? upTo(4) : new int[] {0, 0, 1, 1, 2, 3, 3}[random.nextInt(7)];
        int lanes = random.nextInt(3) == 0 ? 1 + upTo(3) : 1;
        int a = 10000 * upTo(random.nextInt(10) == 0 ? 9 : 3) + 1000 * sort + 100 * lanes + 1 + upTo(longest - 1);
        int b = 1000 * (1 + upTo(random.nextInt(2) == 0 ? 8 : 2)) + Math.floorMod(aDay(), 1000);
        int piece = aPiece();
        due("work(" + a + ", " + b + ", " + piece + ")", x.work(a, b, piece), m.work(a, b, piece));
    }

    private void twins() {
        int piece = aPiece(), other = aPiece(), days = 1 + random.nextInt(longest);
        for (int i = 0; i < 2; i++) {
            int a = 10000 * i + 1000 + 100 * (1 + random.nextInt(2)) + days + random.nextInt(2);
            if (a % 100 > 30) a--;
            int b = 1000 * (3 + i) + random.nextInt(100);
            due("work(" + a + ", " + b + ", " + piece + ")", x.work(a, b, piece), m.work(a, b, piece));
            int w = m.jobs.size() - 1;
            due("more(" + w + ", " + other + ")", x.more(w, other), m.more(w, other));
        }
        int w = m.jobs.size() - 1;
        due("join(" + w + ", " + (w - 1) + ")", x.join(w, w - 1), m.join(w, w - 1));
        permitFirst(w - 1);
        permitFirst(w);
    }

    private void more() {
        int w = random.nextInt(2) == 0 ? m.jobs.size() - 1 : aWork(), p = aPiece();
        due("more(" + w + ", " + p + ")", x.more(w, p), m.more(w, p));
    }

    private void call() {
        switch (random.nextInt(26)) {
            case 0, 1 -> work();
            case 2 -> more();
            case 3 -> {
                int w = aWork(), d = aDay();
                due("may(" + w + ", " + d + ")", x.may(w, d), m.may(w, d));
            }
            case 4, 5 -> why();
            case 6 -> {
                int w = aWork(), d = aDay(), n = random.nextInt(2) == 0 ? upTo(201) : 1 + upTo(20);
                due("first(" + w + ", " + d + ", " + n + ")", x.first(w, d, n), m.first(w, d, n));
            }
            case 7 -> {
                int w = aWork(), d = aDay();
                due("permit(" + w + ", " + d + ")", x.permit(w, d), m.permit(w, d));
            }
            case 8, 9, 10 -> permitFirst(aWork());
            case 11 -> {
                int w = random.nextInt(5) == 0 ? aWork() : -1;
                due("withdraw(" + w + ")", x.withdraw(w), m.withdraw(w));
            }
            case 12 -> {
                int n = random.nextInt(30) == 0 ? upTo(101) : random.nextInt(8);
                due("day(" + n + ")", x.day(n), m.day(n));
            }
            case 13 -> over();
            case 14 -> crash();
            case 15 -> {
                int a = aWork(), b = aWork();
                due("join(" + a + ", " + b + ")", x.join(a, b), m.join(a, b));
            }
            case 16 -> {
                if (random.nextInt(4) == 0) twins();
            }
            case 17 -> {
                int w = aWork(), what = upTo(11);
                due("about(" + w + ", " + what + ")", x.about(w, what), m.about(w, what));
            }
            case 18 -> {
                int p = aPiece(), d = aDay();
                due("lanes(" + p + ", " + d + ")", x.lanes(p, d), m.lanes(p, d));
            }
            case 19 -> {
                int p = upTo(m.pairs.size() - 1), d = aDay();
                due("way(" + p + ", " + d + ")", x.way(p, d), m.way(p, d));
            }
            case 20 -> {
                int d = aDay();
                due("shut(" + d + ")", x.shut(d), m.shut(d));
            }
            case 21 -> due("price()", x.price(), m.price());
            case 22 -> {
                if (random.nextInt(4) == 0) due("better()", x.better(), m.better());
            }
            case 23 -> {
                int p = aPiece(), i = upTo(5);
                due("book(" + p + ", " + i + ")", x.book(p, i), m.book(p, i));
            }
            case 24 -> {
                int what = upTo(9);
                due("count(" + what + ")", x.count(what), m.count(what));
            }
            default -> {
                int d = aDay(), is = random.nextInt(3) == 0 ? upTo(2) : 1;
                due("feast(" + d + ", " + is + ")", x.feast(d, is), m.feast(d, is));
            }
        }
    }

    private void why() {
        int what = upTo(2);
        due("why(" + what + ")", x.why(what), m.why(what));
    }

    private void permitFirst(int w) {
        int from = Math.min(399, m.today + random.nextInt(8));
        int d = m.first(w, from, 60);
        due("first(" + w + ", " + from + ", 60)", x.first(w, from, 60), d);
        if (d < 0) return;
        d = Math.min(399, d + random.nextInt(3) * random.nextInt(9));
        due("permit(" + w + ", " + d + ")", x.permit(w, d), m.permit(w, d));
    }

    private void over() {
        int w = aWork(), n = 1 + upTo(random.nextInt(4) == 0 ? 30 : 4);
        due("over(" + w + ", " + n + ")", x.over(w, n), m.over(w, n));
    }

    private void crash() {
        int w = aWork();
        for (int i = 0; i < m.jobs.size(); i++) {
            if (m.jobs.get(i).sort == 2 && m.jobs.get(i).state == 0 && random.nextInt(3) == 0) w = i;
        }
        due("crash(" + w + ")", x.crash(w), m.crash(w));
    }

    private void compareAll() {
        for (int w = 0; w < m.jobs.size(); w++) {
            for (int what = 0; what <= 10; what++) {
                due("about(" + w + ", " + what + ") at the end", x.about(w, what), m.about(w, what));
            }
        }
        for (int p = 0; p < m.streets.size(); p++) {
            for (int d = 0; d < 400; d += 3) due("lanes(" + p + ", " + d + ") at the end", x.lanes(p, d), m.lanes(p, d));
            for (int i = 0; i < 8; i++) due("book(" + p + ", " + i + ") at the end", x.book(p, i), m.book(p, i));
        }
        for (int what = 0; what <= 8; what++) due("count(" + what + ") at the end", x.count(what), m.count(what));
        for (int d = 0; d < 400; d += 20) due("shut(" + d + ") at the end", x.shut(d), m.shut(d));
    }
}
