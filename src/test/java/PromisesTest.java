/** For each promise of the document: ordinary inputs, the edges that it names, and wrong inputs. */
public final class PromisesTest {
    private static final Check CHECK = new Check("PromisesTest");
    private static final int SMALL = 0, GREAT = 1, CRASH = 2, GUARANTEE = 3;
    private static final int NONE = -1, FULL = -2, STATE = -3, ABSENT = -5;
    private static final int[] WRONG = {Integer.MIN_VALUE, -100, -1, 400, 100000, Integer.MAX_VALUE};

    private PromisesTest() { }

    public static void main(String[] args) {
        promise1();
        promise2();
        promise3();
        promise4();
        promise5();
        promise6();
        promise7notice();
        promise7end();
        promise7feast();
        promise7lanes();
        promise7depth();
        promise7rest();
        promise7ways();
        promise7order();
        promise8();
        promise9();
        promise10();
        promise11();
        promise12();
        promise13();
        promise13chain();
        promise13end();
        promise14();
        promise15();
        promise16();
        promise16shares();
        promise17();
        promise18();
        promise19();
        promise20();
        promise21();
        promise21others();
        promise22();
        promise23();
        CHECK.end();
    }

    private static void is(String call, int got, int want) {
        CHECK.due(call, got, want);
    }

    private static int a(int house, int sort, int lanes, int days) {
        return 10000 * house + 1000 * sort + 100 * lanes + days;
    }

    private static int b(int depth, int wanted) {
        return 1000 * depth + wanted;
    }

    /** A town with one wide street: piece 0, four lanes, a rest as told. */
    private static RoadWorks street(int lanes, int rank, int rest) {
        RoadWorks x = new RoadWorks();
        x.piece(1, lanes, rank, 5, rest);
        return x;
    }

    private static void why(RoadWorks x, int day, int place) {
        is("why(0)", x.why(0), day);
        is("why(1)", x.why(1), place);
    }

    private static void promise1() {
        CHECK.part("promise 1");
        is("NONE", RoadWorks.NONE, -1);
        is("FULL", RoadWorks.FULL, -2);
        is("STATE", RoadWorks.STATE, -3);
        RoadWorks x = new RoadWorks();
        for (int what = 0; what <= 8; what++) is("count(" + what + ")", x.count(what), 0);
        is("price()", x.price(), 0);
        is("better()", x.better(), 0);
        is("shut(0)", x.shut(0), 0);
        is("lanes(0, 0)", x.lanes(0, 0), NONE);
        is("about(0, 0)", x.about(0, 0), ABSENT);
        is("feast(7, 0)", x.feast(7, 0), 0);
        RoadWorks y = new RoadWorks();
        x.piece(1, 1, 0, 1, 0);
        is("count(0) of another object", y.count(0), 0);
    }

    private static void promise2() {
        CHECK.part("promise 2");
        RoadWorks x = new RoadWorks();
        for (int ends : new int[] {0, 101, 1919, 20, 120, 1920, 2000, 2001, -1, -99, -101, Integer.MIN_VALUE}) {
            is("piece with ends " + ends, x.piece(ends, 1, 0, 1, 0), NONE);
        }
        is("lanes 0", x.piece(1, 0, 0, 1, 0), NONE);
        is("lanes 5", x.piece(1, 5, 0, 1, 0), NONE);
        is("rank -1", x.piece(1, 1, -1, 1, 0), NONE);
        is("rank 3", x.piece(1, 1, 3, 1, 0), NONE);
        is("minutes 0", x.piece(1, 1, 0, 0, 0), NONE);
        is("minutes 31", x.piece(1, 1, 0, 31, 0), NONE);
        is("rest -1", x.piece(1, 1, 0, 1, -1), NONE);
        is("rest 61", x.piece(1, 1, 0, 1, 61), NONE);
        is("count(0)", x.count(0), 0);
        is("ends 1", x.piece(1, 1, 0, 1, 0), 0);
        is("ends 100", x.piece(100, 4, 2, 30, 60), 1);
        is("ends 1918", x.piece(1918, 1, 0, 1, 0), 2);
        for (int i = 3; i < 40; i++) is("piece " + i, x.piece(1, 1, 0, 1, 0), i);
        is("a piece too many", x.piece(1, 1, 0, 1, 0), FULL);
        is("a wrong piece too many", x.piece(101, 1, 0, 1, 0), NONE);
        is("count(0)", x.count(0), 40);
        is("lanes(39, 0)", x.lanes(39, 0), 0);
    }

    private static void promise3() {
        CHECK.part("promise 3");
        RoadWorks x = street(1, 0, 0);
        int[][] wrong = {{0, 0, 9}, {-1, 0, 9}, {0, -1, 9}, {20, 0, 9}, {0, 20, 9}, {0, 1, 0}, {0, 1, 201}, {0, 1, -1}};
        for (int[] w : wrong) is("pair(" + w[0] + ", " + w[1] + ", " + w[2] + ")", x.pair(w[0], w[1], w[2]), NONE);
        is("pair(1, 0, 1)", x.pair(1, 0, 1), 0);
        is("pair(0, 1, 200)", x.pair(0, 1, 200), 1);
        is("pair(19, 18, 200)", x.pair(19, 18, 200), 2);
        for (int i = 3; i < 8; i++) is("pair " + i, x.pair(0, 1, 10), i);
        is("a pair too many", x.pair(0, 1, 10), FULL);
        is("a wrong pair too many", x.pair(1, 1, 10), NONE);
        is("count(1)", x.count(1), 8);
    }

    private static void promise4() {
        CHECK.part("promise 4");
        RoadWorks x = street(1, 2, 0);
        for (int day : WRONG) is("feast(" + day + ", 1)", x.feast(day, 1), NONE);
        is("feast(5, 2)", x.feast(5, 2), NONE);
        is("feast(5, -1)", x.feast(5, -1), NONE);
        is("feast(5, 1)", x.feast(5, 1), 0);
        is("feast(5, 1)", x.feast(5, 1), 1);
        x.work(a(0, GUARANTEE, 1, 1), b(1, 0), 0);
        is("may(0, 5)", x.may(0, 5), 3);
        is("feast(5, 0)", x.feast(5, 0), 1);
        is("feast(5, 0)", x.feast(5, 0), 0);
        is("may(0, 5)", x.may(0, 5), 0);
        is("feast(0, 1)", x.feast(0, 1), 0);
        is("feast(399, 1)", x.feast(399, 1), 0);
        is("feast(399, 0)", x.feast(399, 0), 1);
    }

    private static void promise5() {
        CHECK.part("promise 5");
        RoadWorks x = street(4, 0, 0);
        int[] wrongA = {-1, 0, 1, 100, 131, 199, 1, 30, 501, 4101, 9101, 100101, Integer.MIN_VALUE, Integer.MAX_VALUE};
        for (int a : wrongA) is("work(" + a + ", 1000, 0)", x.work(a, 1000, 0), NONE);
        for (int b : new int[] {-1, 0, 399, 1400, 1999, 10000, 9400, -1000, Integer.MIN_VALUE, Integer.MAX_VALUE}) {
            is("work(101, " + b + ", 0)", x.work(101, b, 0), NONE);
        }
        is("work on piece 1", x.work(101, 1000, 1), NONE);
        is("work on piece -1", x.work(101, 1000, -1), NONE);
        is("count(2)", x.count(2), 0);
        is("work(101, 1000, 0)", x.work(101, 1000, 0), 0);
        is("work(93430, 9399, 0)", x.work(93430, 9399, 0), 1);
        is("about(1, 0)", x.about(1, 0), 0);
        is("about(1, 4)", x.about(1, 4), 30 * (20 + 20));
        is("about(1, 9)", x.about(1, 9), 1);
        for (int i = 2; i < 60; i++) is("work " + i, x.work(101, 1000, 0), i);
        is("a work too many", x.work(101, 1000, 0), FULL);
        is("a wrong work too many", x.work(101, 1000, 1), NONE);
        is("count(4)", x.count(4), 60);
        is("withdraw(3)", x.withdraw(3), 1);
        is("a work too many still", x.work(101, 1000, 0), FULL);
    }

    private static void promise6() {
        CHECK.part("promise 6");
        RoadWorks x = new RoadWorks();
        for (int i = 0; i < 6; i++) x.piece(1, 4, 0, 5, 0);
        x.work(a(0, SMALL, 1, 1), b(1, 0), 3);
        is("more(0, 3)", x.more(0, 3), NONE);
        is("more(0, 6)", x.more(0, 6), NONE);
        is("more(0, -1)", x.more(0, -1), NONE);
        is("more(1, 0)", x.more(1, 0), NONE);
        is("more(-1, 0)", x.more(-1, 0), NONE);
        is("more(0, 1)", x.more(0, 1), 2);
        is("more(0, 5)", x.more(0, 5), 3);
        is("more(0, 0)", x.more(0, 0), 4);
        is("more(0, 2)", x.more(0, 2), FULL);
        is("more(0, 5)", x.more(0, 5), NONE);
        is("about(0, 9)", x.about(0, 9), 4);
        is("permit(0, 3)", x.permit(0, 3), 0);
        is("more(0, 2)", x.more(0, 2), STATE);
        is("more(0, 5)", x.more(0, 5), NONE);
        for (int p : new int[] {0, 1, 3, 5}) is("lanes(" + p + ", 3)", x.lanes(p, 3), 1);
        for (int p : new int[] {2, 4}) is("lanes(" + p + ", 3)", x.lanes(p, 3), 0);
        x.work(a(0, GREAT, 1, 1), b(1, 0), 3);
        x.work(a(1, GREAT, 1, 1), b(2, 0), 3);
        is("join(1, 2)", x.join(1, 2), 1);
        is("more(1, 0)", x.more(1, 0), STATE);
        is("more(2, 0)", x.more(2, 0), STATE);
        is("withdraw(2)", x.withdraw(2), 1);
        is("more(1, 0)", x.more(1, 0), 2);
        is("more(2, 0)", x.more(2, 0), STATE);
        RoadWorks y = street(4, 0, 0);
        y.piece(1, 4, 0, 5, 0);
        y.work(a(0, GREAT, 1, 1), b(1, 0), 0);
        y.work(a(1, GREAT, 1, 1), b(2, 0), 0);
        is("join(0, 1)", y.join(0, 1), 1);
        is("more(1, 1) of one JOINED with work 0", y.more(1, 1), STATE);
    }

    private static void promise7notice() {
        CHECK.part("promise 7, NOTICE");
        RoadWorks x = new RoadWorks();
        for (int i = 0; i < 3; i++) x.piece(1, 4, 0, 5, 0);
        x.work(a(0, SMALL, 1, 1), b(1, 0), 2);
        x.more(0, 1);
        x.work(a(0, GREAT, 1, 1), b(1, 0), 1);
        x.work(a(0, GUARANTEE, 1, 1), b(1, 0), 1);
        x.work(a(0, CRASH, 1, 1), b(1, 0), 1);
        is("may(0, 2)", x.may(0, 2), 1);
        why(x, 2, 1);
        is("may(0, 3)", x.may(0, 3), 0);
        is("may(1, 29)", x.may(1, 29), 1);
        why(x, 29, 1);
        is("may(1, 30)", x.may(1, 30), 0);
        is("may(2, 0)", x.may(2, 0), 0);
        is("may(3, 50)", x.may(3, 50), STATE);
        for (int day : WRONG) is("may(0, " + day + ")", x.may(0, day), NONE);
        is("may(3, 400)", x.may(3, 400), NONE);
        is("may(4, 0)", x.may(4, 0), NONE);
        is("may(-1, 0)", x.may(-1, 0), NONE);
        x.day(10);
        is("may(0, 12)", x.may(0, 12), 1);
        is("may(0, 13)", x.may(0, 13), 0);
        is("may(1, 39)", x.may(1, 39), 1);
        is("may(1, 40)", x.may(1, 40), 0);
        is("may(2, 9)", x.may(2, 9), 1);
        is("may(2, 10)", x.may(2, 10), 0);
        is("permit(2, 10)", x.permit(2, 10), 0);
        is("may(2, 20) of a BEGUN one", x.may(2, 20), STATE);
        x.withdraw(1);
        is("may(1, 50) of a WITHDRAWN one", x.may(1, 50), STATE);
        is("count(4)", x.count(4), 2);
    }

    private static void promise7end() {
        CHECK.part("promise 7, END");
        RoadWorks x = new RoadWorks();
        x.piece(1, 1, 2, 5, 0);
        x.piece(1, 1, 2, 5, 0);
        x.work(a(0, SMALL, 4, 5), b(1, 0), 1);
        x.more(0, 0);
        x.feast(397, 1);
        is("may(0, 396)", x.may(0, 396), 2);
        why(x, 400, 0);
        is("may(0, 395)", x.may(0, 395), 3);
        why(x, 397, 0);
        is("may(0, 392)", x.may(0, 392), 4);
        x.work(a(0, SMALL, 1, 30), b(1, 0), 0);
        is("may(1, 370)", x.may(1, 370), 3);
        is("may(1, 371)", x.may(1, 371), 2);
        x.feast(397, 0);
        is("may(1, 370)", x.may(1, 370), 0);
        is("may(1, 399)", x.may(1, 399), 2);
        why(x, 400, 0);
    }

    private static void promise7feast() {
        CHECK.part("promise 7, FEAST");
        RoadWorks x = new RoadWorks();
        x.piece(1, 4, 1, 5, 0);
        x.piece(1, 4, 2, 5, 0);
        x.piece(1, 4, 2, 5, 0);
        x.work(a(0, SMALL, 1, 3), b(1, 0), 2);
        x.more(0, 1);
        x.more(0, 0);
        x.work(a(0, SMALL, 1, 3), b(1, 0), 0);
        x.feast(12, 1);
        x.feast(13, 1);
        is("may(0, 10)", x.may(0, 10), 3);
        why(x, 12, 1);
        is("may(0, 13)", x.may(0, 13), 3);
        why(x, 13, 1);
        is("may(0, 9)", x.may(0, 9), 0);
        is("may(0, 14)", x.may(0, 14), 0);
        is("may(1, 12)", x.may(1, 12), 0);
    }

    private static void promise7lanes() {
        CHECK.part("promise 7, LANES");
        RoadWorks x = new RoadWorks();
        x.piece(1, 2, 0, 5, 0);
        x.piece(1, 2, 0, 5, 0);
        x.piece(1, 3, 0, 5, 0);
        x.work(a(0, SMALL, 1, 3), b(1, 0), 1);
        is("permit(0, 11)", x.permit(0, 11), 0);
        x.work(a(0, SMALL, 1, 3), b(2, 0), 0);
        is("permit(1, 12)", x.permit(1, 12), 0);
        x.work(a(0, SMALL, 2, 4), b(3, 0), 1);
        x.more(2, 2);
        x.more(2, 0);
        is("may(2, 9)", x.may(2, 9), 4);
        why(x, 11, 1);
        is("may(2, 12)", x.may(2, 12), 4);
        why(x, 12, 0);
        is("may(2, 14)", x.may(2, 14), 4);
        why(x, 14, 0);
        is("may(2, 15)", x.may(2, 15), 0);
        is("may(2, 7)", x.may(2, 7), 0);
        is("may(2, 8)", x.may(2, 8), 4);
        x.work(a(0, SMALL, 1, 4), b(4, 0), 0);
        x.more(3, 1);
        is("may(3, 9)", x.may(3, 9), 0);
        is("permit(3, 9)", x.permit(3, 9), 0);
        x.work(a(0, SMALL, 1, 1), b(5, 0), 0);
        is("may(4, 11)", x.may(4, 11), 0);
        is("may(4, 12)", x.may(4, 12), 4);
        x.work(a(0, SMALL, 3, 1), b(5, 0), 0);
        is("may(5, 300)", x.may(5, 300), 4);
        why(x, 300, 0);
        is("may(1, 11) of a PERMITTED one", x.may(1, 11), 0);
        joinedLanes();
    }

    private static void joinedLanes() {
        CHECK.part("promise 7, LANES of JOINED ones");
        RoadWorks x = street(3, 0, 0);
        x.work(a(0, GREAT, 2, 5), b(1, 0), 0);
        x.work(a(1, GREAT, 3, 5), b(2, 0), 0);
        is("permit(0, 40)", x.permit(0, 40), 0);
        is("may(1, 42)", x.may(1, 42), 4);
        is("join(1, 0)", x.join(1, 0), 1);
        is("permit(1, 42)", x.permit(1, 42), 0);
        is("lanes(0, 41)", x.lanes(0, 41), 2);
        is("lanes(0, 42)", x.lanes(0, 42), 3);
        is("lanes(0, 44)", x.lanes(0, 44), 3);
        is("lanes(0, 45)", x.lanes(0, 45), 3);
        is("lanes(0, 47)", x.lanes(0, 47), 0);
        x.work(a(0, SMALL, 1, 1), b(3, 0), 0);
        is("may(2, 41)", x.may(2, 41), 0);
        is("may(2, 42)", x.may(2, 42), 4);
        is("withdraw(1)", x.withdraw(1), 1);
        is("lanes(0, 42)", x.lanes(0, 42), 2);
        is("may(2, 42)", x.may(2, 42), 0);
        joinedAlike();
        joinedAddNothing();
    }

    private static void joinedAlike() {
        RoadWorks x = street(2, 0, 0);
        x.work(a(0, GREAT, 2, 5), b(1, 0), 0);
        x.work(a(1, GREAT, 2, 5), b(2, 0), 0);
        is("join(0, 1)", x.join(0, 1), 1);
        is("permit(0, 40)", x.permit(0, 40), 0);
        is("permit(1, 43)", x.permit(1, 43), 0);
        int[] taken = {0, 2, 2, 2, 2, 2, 2, 2, 2, 0};
        for (int i = 0; i < 10; i++) is("lanes(0, " + (39 + i) + ")", x.lanes(0, 39 + i), taken[i]);
        is("may(1, 45)", x.may(1, 45), 0);
        is("may(1, 38)", x.may(1, 38), 0);
        is("permit(1, 38)", x.permit(1, 38), 0);
        x.work(a(2, SMALL, 1, 1), b(3, 0), 0);
        for (int d = 37; d < 46; d++) is("may(2, " + d + ") beside two", x.may(2, d), d == 37 || d == 45 ? 0 : 4);
        for (int i = 0; i < 7; i++) is("lanes(0, " + (38 + i) + ")", x.lanes(0, 38 + i), 2);
        is("lanes(0, 45)", x.lanes(0, 45), 0);
    }

    /** A way that a work closed already is closed by the work JOINED with it no more. */
    private static void joinedAddNothing() {
        RoadWorks x = street(2, 0, 0);
        x.pair(0, 1, 5);
        x.work(a(0, GREAT, 1, 5), b(1, 0), 0);
        x.work(a(1, GREAT, 1, 5), b(2, 0), 0);
        is("permit(0, 40)", x.permit(0, 40), 0);
        is("may(1, 44)", x.may(1, 44), 7);
        why(x, 44, 0);
        is("join(0, 1)", x.join(0, 1), 1);
        is("may(1, 44)", x.may(1, 44), 0);
        is("may(1, 36)", x.may(1, 36), 0);
        x.work(a(2, SMALL, 1, 5), b(3, 0), 0);
        is("may(2, 36)", x.may(2, 36), 7);
        why(x, 40, 0);
        is("permit(1, 50), on other days", x.permit(1, 50), 0);
        is("permit(2, 45), between both", x.permit(2, 45), 0);
        is("may(1, 45)", x.may(1, 45), 7);
        why(x, 45, 0);
        is("may(1, 35)", x.may(1, 35), 0);
    }

    private static void promise7depth() {
        CHECK.part("promise 7, DEPTH");
        RoadWorks x = new RoadWorks();
        for (int i = 0; i < 3; i++) x.piece(1, 4, 0, 5, 0);
        x.work(a(0, SMALL, 1, 3), b(5, 0), 2);
        x.permit(0, 10);
        x.work(a(0, SMALL, 1, 3), b(5, 0), 1);
        x.permit(1, 11);
        x.work(a(1, SMALL, 1, 4), b(5, 0), 2);
        x.more(2, 1);
        x.more(2, 0);
        is("may(2, 8)", x.may(2, 8), 5);
        why(x, 10, 2);
        is("may(2, 11)", x.may(2, 11), 5);
        why(x, 11, 1);
        is("may(2, 13)", x.may(2, 13), 5);
        why(x, 13, 1);
        is("may(2, 14)", x.may(2, 14), 0);
        is("may(2, 6)", x.may(2, 6), 0);
        x.work(a(1, SMALL, 1, 4), b(4, 0), 2);
        is("may of another depth", x.may(3, 10), 0);
        x.work(a(0, SMALL, 1, 4), b(5, 0), 2);
        is("may of the same house", x.may(4, 10), 0);
        x.work(a(1, SMALL, 1, 4), b(5, 0), 0);
        is("may on another piece", x.may(5, 10), 0);
        x.work(a(2, SMALL, 1, 1), b(5, 399), 1);
        x.more(6, 2);
        is("may(6, 11), wanted on another day", x.may(6, 11), 5);
        why(x, 11, 1);
        is("may(6, 10)", x.may(6, 10), 5);
        why(x, 10, 2);
    }

    private static void promise7rest() {
        CHECK.part("promise 7, REST");
        RoadWorks x = street(4, 0, 3);
        x.piece(1, 4, 0, 5, 60);
        x.work(a(0, SMALL, 1, 5), b(1, 0), 0);
        x.permit(0, 20);
        x.work(a(0, SMALL, 1, 2), b(2, 0), 1);
        x.more(1, 0);
        is("may(1, 25)", x.may(1, 25), 6);
        why(x, 25, 0);
        is("may(1, 27)", x.may(1, 27), 6);
        why(x, 27, 0);
        is("may(1, 28)", x.may(1, 28), 0);
        is("may(1, 24)", x.may(1, 24), 0);
        is("may(1, 19)", x.may(1, 19), 0);
        is("may(1, 18)", x.may(1, 18), 6);
        why(x, 18, 0);
        is("may(1, 16)", x.may(1, 16), 6);
        is("may(1, 15)", x.may(1, 15), 0);
        x.work(a(0, GUARANTEE, 1, 2), b(2, 0), 0);
        is("GUARANTEE behind", x.may(2, 25), 0);
        is("GUARANTEE ahead", x.may(2, 18), 6);
        is("GUARANTEE far ahead", x.may(2, 15), 0);
        is("permit(2, 60)", x.permit(2, 60), 0);
        is("ahead of a GUARANTEE", x.may(1, 58), 0);
        is("behind a GUARANTEE", x.may(1, 64), 6);
        is("far behind a GUARANTEE", x.may(1, 65), 0);
        restBehindEnded();
    }

    private static void restBehindEnded() {
        RoadWorks x = street(4, 0, 60);
        x.work(a(0, GUARANTEE, 1, 1), b(1, 0), 0);
        x.permit(0, 0);
        x.day(2);
        is("about(0, 0)", x.about(0, 0), 3);
        x.work(a(0, SMALL, 1, 1), b(1, 0), 0);
        is("behind an ENDED one", x.may(1, 60), 6);
        why(x, 60, 0);
        is("far behind an ENDED one", x.may(1, 61), 0);
        RoadWorks y = street(4, 0, 0);
        y.work(a(0, SMALL, 1, 5), b(1, 0), 0);
        y.permit(0, 20);
        y.work(a(0, SMALL, 1, 2), b(2, 0), 0);
        is("without REST", y.may(1, 25), 0);
        is("without REST, ahead", y.may(1, 18), 0);
    }

    private static void promise7ways() {
        CHECK.part("promise 7, WAYS");
        RoadWorks x = new RoadWorks();
        x.piece(1, 1, 0, 5, 0);
        x.piece(102, 2, 0, 5, 0);
        x.piece(2, 1, 0, 30, 0);
        x.pair(0, 3, 200);
        x.pair(2, 0, 10);
        x.pair(0, 1, 34);
        x.pair(0, 1, 35);
        x.work(a(0, SMALL, 1, 5), b(1, 0), 0);
        is("may(0, 10)", x.may(0, 10), 7);
        why(x, 10, 1);
        x.work(a(0, SMALL, 1, 5), b(1, 0), 1);
        is("one of two lanes", x.may(1, 10), 0);
        x.work(a(0, SMALL, 1, 5), b(2, 0), 1);
        is("permit(1, 12)", x.permit(1, 12), 0);
        is("the other one of two lanes", x.may(2, 10), 7);
        why(x, 12, 1);
        is("behind it", x.may(2, 17), 0);
        x.work(a(0, SMALL, 1, 5), b(1, 0), 2);
        is("the detour of pair 3 is not needed", x.may(3, 3), 0);
        is("permit(3, 3)", x.permit(3, 3), 0);
        is("the detour of pair 3", x.may(0, 7), 7);
        why(x, 7, 1);
        x.work(a(0, CRASH, 2, 12), b(1, 0), 1);
        is("crash(4)", x.crash(4), 0);
        is("pair 1 has none already", x.may(0, 7), 7);
        why(x, 7, 2);
        is("pair 3 has none but here", x.may(0, 8), 7);
        why(x, 8, 2);
        is("pair 1 has none already", x.may(3, 7), 0);
        is("pair 1 has one again", x.may(0, 12), 7);
        why(x, 12, 1);
        alreadyShut();
        otherDaysOtherWays();
    }

    /** The way of one day is shut, that of a later day is shut otherwise, and the last day counts. */
    private static void otherDaysOtherWays() {
        RoadWorks x = new RoadWorks();
        for (int i = 0; i < 3; i++) x.piece(1, 1, 0, 5, 0);
        x.pair(0, 1, 5);
        x.work(a(0, SMALL, 1, 4), b(1, 0), 1);
        x.work(a(0, SMALL, 1, 4), b(1, 0), 2);
        is("permit(0, 10)", x.permit(0, 10), 0);
        is("permit(1, 14)", x.permit(1, 14), 0);
        x.work(a(0, SMALL, 1, 5), b(1, 0), 0);
        for (int d = 8; d < 16; d++) is("may(2, " + d + ") beside one at a time", x.may(2, d), 0);
        is("permit(1, 13)", x.permit(1, 13), 0);
        is("may(2, 8)", x.may(2, 8), 0);
        is("may(2, 9)", x.may(2, 9), 7);
        why(x, 13, 0);
        is("may(2, 13)", x.may(2, 13), 7);
        why(x, 13, 0);
        is("may(2, 14)", x.may(2, 14), 0);
    }

    private static void alreadyShut() {
        RoadWorks x = street(1, 0, 0);
        x.piece(1, 1, 0, 8, 0);
        x.pair(0, 1, 6);
        x.work(a(0, CRASH, 1, 5), b(1, 0), 0);
        x.work(a(0, GUARANTEE, 1, 5), b(1, 0), 1);
        x.crash(0);
        is("a PAIR without a way before", x.may(1, 0), 0);
        x.pair(1, 0, 8);
        is("a PAIR with one", x.may(1, 0), 7);
        why(x, 0, 1);
        is("behind the crash", x.may(1, 5), 0);
        is("over the end of the crash", x.may(1, 4), 7);
        why(x, 4, 1);
    }

    private static void promise7order() {
        CHECK.part("promise 7, the order of the rules");
        RoadWorks x = new RoadWorks();
        x.piece(1, 2, 2, 5, 10);
        x.pair(0, 1, 10);
        x.work(a(0, SMALL, 1, 5), b(1, 0), 0);
        x.permit(0, 20);
        x.work(a(1, SMALL, 1, 5), b(1, 0), 0);
        x.work(a(1, SMALL, 2, 5), b(1, 0), 0);
        is("DEPTH ahead of WAYS", x.may(1, 20), 5);
        is("LANES ahead of DEPTH", x.may(2, 20), 4);
        x.feast(22, 1);
        is("FEAST ahead of LANES", x.may(2, 20), 3);
        is("REST ahead of WAYS", x.may(2, 25), 6);
        is("WAYS last", x.may(2, 35), 7);
        x.work(a(1, SMALL, 1, 5), b(2, 0), 0);
        x.feast(22, 0);
        is("WAYS of both", x.may(3, 20), 7);
        x.day(15);
        is("NOTICE ahead of all", x.may(2, 17), 1);
        x.day(100);
        x.day(100);
        x.day(100);
        x.day(80);
        x.feast(397, 1);
        is("NOTICE ahead of END", x.may(2, 397), 1);
    }

    private static void promise8() {
        CHECK.part("promise 8");
        RoadWorks x = street(1, 0, 0);
        x.piece(102, 1, 2, 5, 0);
        x.feast(50, 1);
        is("why(0) before any", x.why(0), NONE);
        is("why(1) before any", x.why(1), NONE);
        x.work(a(0, SMALL, 1, 5), b(1, 0), 0);
        x.work(a(1, SMALL, 1, 5), b(1, 0), 1);
        x.may(0, 10);
        x.first(0, 5, 5);
        is("why(0) before a broken one", x.why(0), NONE);
        x.may(1, 48);
        why(x, 50, 1);
        is("why(2)", x.why(2), NONE);
        is("why(-1)", x.why(-1), NONE);
        is("permit(0, 1)", x.permit(0, 1), -11);
        why(x, 1, 0);
        is("first(1, 46, 20)", x.first(1, 46, 20), 51);
        why(x, 50, 1);
        is("first(0, 0, 3)", x.first(0, 0, 3), ABSENT);
        why(x, 0, 0);
        is("may(1, 20)", x.may(1, 20), 0);
        is("permit(1, 46)", x.permit(1, 46), -13);
        is("permit(1, 45)", x.permit(1, 45), 0);
        why(x, 50, 1);
        is("may(1, 400)", x.may(1, 400), NONE);
        is("first(1, 45, 5)", x.first(1, 45, 5), 45);
        why(x, 50, 1);
        is("first(0, 397, 9)", x.first(0, 397, 9), ABSENT);
        why(x, 400, 0);
        x.may(1, 2);
        x.feast(47, 1);
        x.work(a(2, CRASH, 1, 5), b(1, 0), 0);
        is("crash(2)", x.crash(2), 1);
        is("better()", x.better(), 1);
        why(x, 2, 1);
    }

    private static void promise9() {
        CHECK.part("promise 9");
        RoadWorks x = street(1, 0, 3);
        x.work(a(0, SMALL, 1, 5), b(1, 0), 0);
        x.work(a(1, SMALL, 1, 5), b(2, 0), 0);
        is("permit(0, 10)", x.permit(0, 10), 0);
        is("first(1, 0, 1)", x.first(1, 0, 1), ABSENT);
        is("first(1, 0, 3)", x.first(1, 0, 3), ABSENT);
        is("first(1, 0, 4)", x.first(1, 0, 4), ABSENT);
        is("first(1, 3, 15)", x.first(1, 3, 15), ABSENT);
        is("first(1, 3, 16)", x.first(1, 3, 16), 18);
        is("first(1, 18, 1)", x.first(1, 18, 1), 18);
        is("first(1, 300, 200)", x.first(1, 300, 200), 300);
        is("first(1, 396, 200)", x.first(1, 396, 200), ABSENT);
        is("first(1, 395, 1)", x.first(1, 395, 1), 395);
        is("first(1, 2, 1)", x.first(1, 2, 1), ABSENT);
        is("first(1, 2, 2)", x.first(1, 2, 2), ABSENT);
        is("permit(0, 15)", x.permit(0, 15), 0);
        is("first(1, 2, 2)", x.first(1, 2, 2), 3);
        is("permit(0, 10)", x.permit(0, 10), 0);
        theLastDay();
        is("first(1, 0, 0)", x.first(1, 0, 0), NONE);
        is("first(1, 0, -1)", x.first(1, 0, -1), NONE);
        is("first(1, 0, 201)", x.first(1, 0, 201), NONE);
        is("first(1, 0, MAX)", x.first(1, 0, Integer.MAX_VALUE), NONE);
        for (int day : WRONG) is("first(1, " + day + ", 5)", x.first(1, day, 5), NONE);
        is("first(2, 0, 5)", x.first(2, 0, 5), NONE);
        is("first(-1, 0, 5)", x.first(-1, 0, 5), NONE);
        is("first(0, 9, 5) of a PERMITTED one", x.first(0, 9, 5), 9);
        x.day(10);
        is("first(0, 10, 5) of a BEGUN one", x.first(0, 10, 5), STATE);
        is("first(0, 10, 0) of a BEGUN one", x.first(0, 10, 0), NONE);
        x.work(a(1, CRASH, 1, 5), b(2, 0), 0);
        is("first(2, 10, 5) of a CRASH", x.first(2, 10, 5), STATE);
    }

    private static void theLastDay() {
        RoadWorks x = street(1, 0, 0);
        x.work(a(0, SMALL, 1, 5), b(1, 0), 0);
        x.work(a(0, SMALL, 1, 1), b(1, 0), 0);
        is("permit(0, 394)", x.permit(0, 394), 0);
        is("first(1, 394, 5)", x.first(1, 394, 5), ABSENT);
        is("first(1, 394, 6)", x.first(1, 394, 6), 399);
        is("first(1, 394, 200)", x.first(1, 394, 200), 399);
        is("permit(1, 395)", x.permit(1, 395), -14);
        is("permit(1, 399)", x.permit(1, 399), 0);
        is("about(1, 2)", x.about(1, 2), 399);
    }

    private static void promise10() {
        CHECK.part("promise 10");
        RoadWorks x = street(1, 0, 3);
        x.work(a(0, SMALL, 1, 5), b(1, 0), 0);
        x.work(a(1, GUARANTEE, 1, 5), b(2, 0), 0);
        x.work(a(1, CRASH, 1, 5), b(2, 0), 0);
        for (int day : WRONG) is("permit(0, " + day + ")", x.permit(0, day), NONE);
        is("permit(3, 5)", x.permit(3, 5), NONE);
        is("permit(-1, 5)", x.permit(-1, 5), NONE);
        is("permit(2, 5)", x.permit(2, 5), STATE);
        is("permit(0, 2)", x.permit(0, 2), -11);
        is("about(0, 0)", x.about(0, 0), 0);
        is("permit(0, 3)", x.permit(0, 3), 0);
        is("about(0, 0)", x.about(0, 0), 1);
        is("about(0, 1)", x.about(0, 1), 3);
        is("permit(0, 4) again", x.permit(0, 4), 0);
        is("about(0, 1)", x.about(0, 1), 4);
        is("about(0, 2)", x.about(0, 2), 8);
        is("about(0, 10)", x.about(0, 10), 0);
        is("permit(0, 396)", x.permit(0, 396), -12);
        is("about(0, 1)", x.about(0, 1), 4);
        is("permit(1, 6)", x.permit(1, 6), -14);
        is("permit(1, 0)", x.permit(1, 0), -14);
        is("permit(0, 20)", x.permit(0, 20), 0);
        is("permit(1, 0)", x.permit(1, 0), 0);
        is("BEGUN at once", x.about(1, 0), 2);
        is("permit(1, 5)", x.permit(1, 5), STATE);
        is("count(5)", x.count(5), 1);
        is("count(6)", x.count(6), 1);
        x.day(20);
        is("about(1, 0)", x.about(1, 0), 3);
        is("permit(1, 30) of an ENDED one", x.permit(1, 30), STATE);
        is("permit(0, 30) of a BEGUN one", x.permit(0, 30), STATE);
    }

    private static void promise11() {
        CHECK.part("promise 11");
        RoadWorks x = street(1, 0, 3);
        x.work(a(0, SMALL, 1, 5), b(1, 0), 0);
        x.work(a(1, GUARANTEE, 1, 5), b(2, 0), 0);
        x.work(a(1, CRASH, 1, 5), b(2, 0), 0);
        is("withdraw(3)", x.withdraw(3), NONE);
        is("withdraw(-1)", x.withdraw(-1), NONE);
        is("permit(0, 10)", x.permit(0, 10), 0);
        is("withdraw(0)", x.withdraw(0), 1);
        is("about(0, 0)", x.about(0, 0), 4);
        is("about(0, 1)", x.about(0, 1), -1);
        is("about(0, 2)", x.about(0, 2), -1);
        is("about(0, 7)", x.about(0, 7), 0);
        is("lanes(0, 10)", x.lanes(0, 10), 0);
        is("withdraw(0) again", x.withdraw(0), STATE);
        is("withdraw(2) of a CRASH", x.withdraw(2), 1);
        is("crash(2)", x.crash(2), STATE);
        is("permit(1, 0)", x.permit(1, 0), 0);
        is("withdraw(1) of a BEGUN one", x.withdraw(1), STATE);
        x.day(5);
        is("withdraw(1) of an ENDED one", x.withdraw(1), STATE);
        is("count(8)", x.count(8), 2);
    }

    private static void promise12() {
        CHECK.part("promise 12");
        RoadWorks x = street(4, 0, 0);
        x.work(a(0, SMALL, 1, 2), b(1, 0), 0);
        x.work(a(0, SMALL, 1, 1), b(1, 0), 0);
        x.permit(0, 5);
        x.permit(1, 7);
        is("day(0)", x.day(0), NONE);
        is("day(-1)", x.day(-1), NONE);
        is("day(101)", x.day(101), NONE);
        is("day(MAX)", x.day(Integer.MAX_VALUE), NONE);
        is("day(4)", x.day(4), 4);
        is("about(0, 0)", x.about(0, 0), 1);
        is("day(1)", x.day(1), 5);
        is("about(0, 0)", x.about(0, 0), 2);
        is("day(1)", x.day(1), 6);
        is("about(0, 0)", x.about(0, 0), 2);
        is("about(1, 0)", x.about(1, 0), 1);
        is("day(1)", x.day(1), 7);
        is("about(0, 0)", x.about(0, 0), 3);
        is("about(1, 0)", x.about(1, 0), 2);
        is("day(1)", x.day(1), 8);
        is("about(1, 0)", x.about(1, 0), 3);
        is("about(1, 1)", x.about(1, 1), 7);
        x.work(a(0, SMALL, 1, 1), b(1, 0), 0);
        x.permit(2, 20);
        is("day(100)", x.day(100), 108);
        is("about(2, 0)", x.about(2, 0), 3);
        is("day(100)", x.day(100), 208);
        is("day(100)", x.day(100), 308);
        is("day(92)", x.day(92), NONE);
        is("count(3)", x.count(3), 308);
        is("day(91)", x.day(91), 399);
        is("day(1)", x.day(1), NONE);
    }

    private static void promise13() {
        CHECK.part("promise 13");
        RoadWorks x = street(1, 1, 2);
        x.work(a(0, GUARANTEE, 1, 5), b(1, 0), 0);
        x.work(a(1, SMALL, 1, 5), b(2, 0), 0);
        x.permit(1, 7);
        is("over of an ASKED one", x.over(0, 3), STATE);
        is("over of a PERMITTED one", x.over(1, 3), STATE);
        is("permit(0, 0)", x.permit(0, 0), 0);
        for (int n : new int[] {0, -1, 31, Integer.MAX_VALUE, Integer.MIN_VALUE}) {
            is("over(0, " + n + ")", x.over(0, n), NONE);
            is("over(1, " + n + ")", x.over(1, n), NONE);
        }
        is("over(2, 1)", x.over(2, 1), NONE);
        is("over(-1, 1)", x.over(-1, 1), NONE);
        is("about(0, 2)", x.about(0, 2), 4);
        is("over(0, 1)", x.over(0, 1), 1);
        is("about(0, 2)", x.about(0, 2), 5);
        is("about(0, 3)", x.about(0, 3), 1);
        is("about(0, 6)", x.about(0, 6), 20);
        is("about(1, 1)", x.about(1, 1), 8);
        is("about(1, 2)", x.about(1, 2), 12);
        is("about(1, 10)", x.about(1, 10), 1);
        is("over(0, 30)", x.over(0, 30), 1);
        is("about(0, 3)", x.about(0, 3), 31);
        is("about(0, 6)", x.about(0, 6), 620);
        is("about(0, 4)", x.about(0, 4), 5 * 35);
        is("about(1, 1)", x.about(1, 1), 38);
        is("about(1, 10)", x.about(1, 10), 2);
        is("about(1, 3)", x.about(1, 3), 0);
        is("lanes(0, 35)", x.lanes(0, 35), 1);
        is("lanes(0, 36)", x.lanes(0, 36), 0);
        x.day(35);
        is("about(0, 0)", x.about(0, 0), 2);
        x.day(1);
        is("about(0, 0)", x.about(0, 0), 3);
        is("over of an ENDED one", x.over(0, 3), STATE);
        is("over(1, 31)", x.over(1, 31), NONE);
    }

    private static void promise13chain() {
        CHECK.part("promise 13, one moves the next");
        RoadWorks x = street(1, 2, 0);
        x.work(a(0, GUARANTEE, 1, 5), b(1, 0), 0);
        x.work(a(0, SMALL, 1, 3), b(1, 0), 0);
        x.work(a(0, SMALL, 1, 3), b(1, 0), 0);
        x.work(a(0, SMALL, 1, 4), b(1, 0), 0);
        x.permit(0, 0);
        x.permit(1, 5);
        x.permit(2, 8);
        x.permit(3, 20);
        is("over(0, 2)", x.over(0, 2), 2);
        is("about(1, 1)", x.about(1, 1), 7);
        is("about(2, 1)", x.about(2, 1), 10);
        is("about(3, 1)", x.about(3, 1), 20);
        x.feast(21, 1);
        is("over(0, 1), and a feast since", x.over(0, 1), 3);
        is("about(1, 1)", x.about(1, 1), 8);
        is("about(2, 1)", x.about(2, 1), 11);
        is("about(3, 1)", x.about(3, 1), 22);
        is("about(3, 10)", x.about(3, 10), 1);
        is("about(2, 10)", x.about(2, 10), 2);
        is("permit(1, 30)", x.permit(1, 30), 0);
        x.feast(31, 1);
        x.feast(13, 1);
        is("over(0, 1), and the greater numbers are no matter", x.over(0, 1), 2);
        is("about(1, 1)", x.about(1, 1), 32);
        is("about(2, 1)", x.about(2, 1), 14);
        lesserMovesOntoGreater();
        movedKeepWays();
    }

    private static void lesserMovesOntoGreater() {
        RoadWorks x = street(1, 0, 0);
        x.work(a(0, SMALL, 1, 3), b(1, 0), 0);
        x.work(a(0, SMALL, 1, 3), b(1, 0), 0);
        x.work(a(0, GUARANTEE, 1, 3), b(1, 0), 0);
        x.permit(0, 3);
        x.permit(1, 6);
        x.permit(2, 0);
        is("over(2, 3)", x.over(2, 3), 2);
        is("about(0, 1)", x.about(0, 1), 6);
        is("about(1, 1)", x.about(1, 1), 9);
    }

    private static void movedKeepWays() {
        RoadWorks x = new RoadWorks();
        x.piece(1, 1, 0, 5, 0);
        x.piece(1, 1, 0, 5, 0);
        x.pair(0, 1, 5);
        x.work(a(0, GUARANTEE, 1, 3), b(1, 0), 0);
        x.work(a(0, SMALL, 1, 3), b(1, 0), 1);
        x.permit(0, 0);
        x.permit(1, 3);
        is("over(0, 4) on another piece", x.over(0, 4), 1);
        is("about(1, 1)", x.about(1, 1), 7);
    }

    private static void promise13end() {
        CHECK.part("promise 13, at the end of days");
        movedToTheLastDay();
        movedWithoutNotice();
        RoadWorks x = street(1, 0, 0);
        x.work(a(0, SMALL, 1, 5), b(1, 0), 0);
        x.work(a(0, SMALL, 1, 5), b(1, 0), 0);
        x.work(a(0, SMALL, 1, 2), b(1, 0), 0);
        x.permit(0, 385);
        x.permit(1, 392);
        x.permit(2, 397);
        for (int i = 0; i < 3; i++) x.day(100);
        x.day(85);
        is("over(0, 4)", x.over(0, 4), 2);
        is("about(1, 1)", x.about(1, 1), 394);
        is("about(1, 10)", x.about(1, 10), 1);
        is("about(2, 0), no room behind", x.about(2, 0), 4);
        is("about(2, 1)", x.about(2, 1), -1);
        is("about(2, 10)", x.about(2, 10), 0);
    }

    private static void movedToTheLastDay() {
        RoadWorks x = street(1, 0, 0);
        x.work(a(0, SMALL, 1, 5), b(1, 0), 0);
        x.work(a(0, SMALL, 1, 1), b(1, 0), 0);
        x.permit(0, 390);
        x.permit(1, 396);
        for (int i = 0; i < 3; i++) x.day(100);
        x.day(90);
        is("over(0, 4)", x.over(0, 4), 1);
        is("about(1, 1)", x.about(1, 1), 399);
        is("about(1, 0)", x.about(1, 0), 1);
        is("over(0, 1)", x.over(0, 1), 1);
        is("about(1, 0)", x.about(1, 0), 4);
        is("about(1, 10)", x.about(1, 10), 1);
    }

    private static void movedWithoutNotice() {
        RoadWorks x = street(1, 0, 0);
        x.work(a(0, GUARANTEE, 1, 5), b(1, 0), 0);
        x.work(a(0, GREAT, 1, 5), b(1, 0), 0);
        x.permit(1, 30);
        x.day(25);
        x.permit(0, 25);
        is("over(0, 2)", x.over(0, 2), 1);
        is("about(1, 1)", x.about(1, 1), 32);
    }

    private static void promise14() {
        CHECK.part("promise 14");
        RoadWorks x = street(2, 0, 1);
        x.work(a(0, CRASH, 2, 5), b(1, 3), 0);
        x.work(a(1, SMALL, 1, 5), b(1, 0), 0);
        x.work(a(0, CRASH, 4, 30), b(1, 399), 0);
        x.permit(1, 7);
        is("crash(3)", x.crash(3), NONE);
        is("crash(-1)", x.crash(-1), NONE);
        is("crash(1)", x.crash(1), STATE);
        x.day(5);
        is("crash(0)", x.crash(0), 1);
        is("about(0, 0)", x.about(0, 0), 2);
        is("about(0, 1)", x.about(0, 1), 5);
        is("about(0, 2)", x.about(0, 2), 9);
        is("about(0, 7)", x.about(0, 7), 4);
        is("about(1, 1)", x.about(1, 1), 11);
        is("crash(0) again", x.crash(0), STATE);
        is("over(0, 1) of a CRASH", x.over(0, 1), 1);
        is("about(1, 1)", x.about(1, 1), 12);
        for (int i = 0; i < 3; i++) x.day(100);
        x.day(75);
        is("crash(2)", x.crash(2), 0);
        is("lasts to 399", x.about(2, 2), 399);
        is("about(2, 1)", x.about(2, 1), 380);
        is("about(2, 3)", x.about(2, 3), 0);
        is("about(2, 4)", x.about(2, 4), 30 * 40);
        is("over(2, 30)", x.over(2, 30), 0);
        is("about(2, 3)", x.about(2, 3), 0);
        is("lanes beyond what the piece has", x.lanes(0, 399), 4);
        crashWithdraws();
        overToTheLastDay();
    }

    private static void crashWithdraws() {
        RoadWorks x = street(1, 0, 60);
        x.work(a(0, SMALL, 1, 5), b(1, 0), 0);
        x.work(a(0, CRASH, 1, 30), b(1, 0), 0);
        for (int i = 0; i < 3; i++) x.day(100);
        x.day(20);
        x.permit(0, 380);
        is("crash(1), no rest left", x.crash(1), 1);
        is("about(0, 1)", x.about(0, 1), -1);
        is("about(0, 0)", x.about(0, 0), 4);
    }

    private static void overToTheLastDay() {
        RoadWorks x = street(1, 2, 0);
        x.work(a(0, GUARANTEE, 1, 5), b(1, 0), 0);
        for (int i = 0; i < 3; i++) x.day(100);
        x.day(90);
        x.permit(0, 390);
        is("over(0, 30)", x.over(0, 30), 0);
        is("about(0, 2)", x.about(0, 2), 399);
        is("about(0, 3)", x.about(0, 3), 5);
        is("about(0, 6)", x.about(0, 6), 5 * 30);
        is("day(9)", x.day(9), 399);
        is("about(0, 0)", x.about(0, 0), 2);
    }

    private static void promise15() {
        CHECK.part("promise 15");
        RoadWorks x = new RoadWorks();
        for (int i = 0; i < 3; i++) x.piece(1, 4, 0, 5, 0);
        int[] houses = {0, 1, 0, 2, 3, 4, 5};
        int[] sorts = {GREAT, GREAT, GREAT, SMALL, GREAT, GREAT, GREAT};
        int[] depths = {1, 2, 3, 4, 1, 5, 6};
        for (int i = 0; i < 7; i++) x.work(a(houses[i], sorts[i], 1, 5), b(depths[i], 0), i == 1 ? 2 : 0);
        for (int i = 0; i < 7; i++) x.more(i, i == 1 ? 0 : 2);
        x.more(6, 1);
        is("join(0, 0)", x.join(0, 0), NONE);
        is("join(0, 7)", x.join(0, 7), NONE);
        is("join(7, 0)", x.join(7, 0), NONE);
        is("join(-1, 0)", x.join(-1, 0), NONE);
        is("one house", x.join(0, 2), STATE);
        is("a SMALL one", x.join(0, 3), STATE);
        is("a SMALL one first", x.join(3, 0), STATE);
        is("one depth", x.join(0, 4), STATE);
        is("other pieces", x.join(0, 6), STATE);
        is("permit(0, 30)", x.permit(0, 30), 0);
        is("join(0, 1), pieces told in another order", x.join(0, 1), 1);
        is("about(0, 8)", x.about(0, 8), 1);
        is("about(1, 8)", x.about(1, 8), 0);
        is("JOINED already", x.join(0, 5), STATE);
        is("JOINED already, the other one", x.join(5, 1), STATE);
        is("withdraw(1)", x.withdraw(1), 1);
        is("about(0, 8)", x.about(0, 8), -1);
        is("about(1, 8)", x.about(1, 8), -1);
        is("a WITHDRAWN one", x.join(0, 1), STATE);
        is("join(5, 0)", x.join(5, 0), 1);
        is("join(2, 4)", x.join(2, 4), 1);
        x.day(30);
        is("JOINED still", x.about(0, 8), 5);
        is("withdraw(5)", x.withdraw(5), 1);
        x.work(a(7, GREAT, 1, 5), b(7, 0), 0);
        x.more(7, 2);
        is("a BEGUN one", x.join(0, 7), STATE);
        is("withdrawn by a move", joinedAndMovedAway(), -1);
    }

    /** What a work is JOINED with after its partner found no other day. */
    private static int joinedAndMovedAway() {
        RoadWorks x = street(2, 0, 0);
        x.work(a(0, GREAT, 1, 5), b(1, 0), 0);
        x.work(a(1, GREAT, 1, 5), b(2, 0), 0);
        x.work(a(2, CRASH, 2, 30), b(3, 0), 0);
        for (int i = 0; i < 3; i++) x.day(100);
        x.day(60);
        x.permit(0, 394);
        x.join(0, 1);
        x.day(30);
        is("crash(2)", x.crash(2), 1);
        return x.about(1, 8);
    }

    private static void promise16() {
        CHECK.part("promise 16");
        RoadWorks x = new RoadWorks();
        x.piece(1, 4, 0, 5, 0);
        x.piece(1, 4, 1, 5, 0);
        x.piece(1, 4, 2, 5, 0);
        x.work(a(4, GUARANTEE, 3, 6), b(9, 4), 2);
        x.more(0, 0);
        x.more(0, 1);
        int[] asked = {0, -1, -1, 0, 6 * (3 * 35 + 30), 6 * (3 * 35 + 30), 0, 0, -1, 3, 0};
        for (int what = 0; what <= 10; what++) is("about(0, " + what + ")", x.about(0, what), asked[what]);
        is("about(0, 11)", x.about(0, 11), ABSENT);
        is("about(0, -1)", x.about(0, -1), ABSENT);
        is("about(1, 0)", x.about(1, 0), ABSENT);
        is("about(-1, 0)", x.about(-1, 0), ABSENT);
        x.permit(0, 3);
        is("DELAY of an early one", x.about(0, 7), 0);
        x.permit(0, 7);
        is("DELAY", x.about(0, 7), 9);
        x.day(7);
        x.over(0, 2);
        int[] begun = {2, 7, 14, 2, 6 * (3 * 35 + 30), 6 * (3 * 35 + 30), 2 * 40, 9, -1, 3, 0};
        for (int what = 0; what <= 10; what++) is("about(0, " + what + ")", x.about(0, what), begun[what]);
        x.day(8);
        is("about(0, 0)", x.about(0, 0), 3);
        for (int what = 1; what <= 10; what++) is("about(0, " + what + ")", x.about(0, what), begun[what]);
    }

    private static void promise16shares() {
        CHECK.part("promise 16, SHARES");
        RoadWorks x = street(4, 1, 0);
        x.work(a(0, GREAT, 1, 3), b(1, 0), 0);
        x.work(a(1, GREAT, 3, 7), b(2, 0), 0);
        is("about(0, 4)", x.about(0, 4), 105);
        is("about(1, 4)", x.about(1, 4), 315);
        is("about(1, 5)", x.about(1, 5), 315);
        is("join(1, 0)", x.join(1, 0), 1);
        // The whole is 315 and 26 = 341; 105 * 341 / 420 = 85.25 and 315 * 341 / 420 = 255.75.
        is("about(0, 5)", x.about(0, 5), 86);
        is("about(1, 5)", x.about(1, 5), 255);
        is("about(0, 4)", x.about(0, 4), 105);
        is("withdraw(1)", x.withdraw(1), 1);
        is("about(0, 5)", x.about(0, 5), 105);
        is("about(1, 5)", x.about(1, 5), 315);
        RoadWorks y = street(4, 1, 0);
        y.work(a(0, GREAT, 3, 7), b(1, 0), 0);
        y.work(a(1, GREAT, 1, 3), b(2, 0), 0);
        is("join(0, 1)", y.join(0, 1), 1);
        is("about(0, 5)", y.about(0, 5), 256);
        is("about(1, 5)", y.about(1, 5), 85);
    }

    private static void promise17() {
        CHECK.part("promise 17");
        RoadWorks x = street(4, 0, 0);
        x.piece(1, 4, 0, 5, 0);
        x.work(a(0, GUARANTEE, 1, 2), b(1, 0), 0);
        x.work(a(0, GUARANTEE, 2, 3), b(1, 0), 0);
        x.work(a(0, GUARANTEE, 1, 3), b(1, 0), 0);
        x.permit(0, 0);
        x.permit(1, 1);
        int[] taken = {1, 3, 2, 2, 0};
        for (int d = 0; d < 5; d++) is("lanes(0, " + d + ")", x.lanes(0, d), taken[d]);
        is("lanes(1, 1)", x.lanes(1, 1), 0);
        for (int day : WRONG) is("lanes(0, " + day + ")", x.lanes(0, day), NONE);
        is("lanes(2, 0)", x.lanes(2, 0), NONE);
        is("lanes(-1, 0)", x.lanes(-1, 0), NONE);
        x.day(9);
        for (int d = 0; d < 5; d++) is("lanes(0, " + d + ") of ENDED ones", x.lanes(0, d), taken[d]);
        is("lanes(0, 399)", x.lanes(0, 399), 0);
    }

    private static void promise18() {
        CHECK.part("promise 18");
        RoadWorks x = new RoadWorks();
        x.piece(1, 1, 0, 5, 0);
        x.piece(102, 2, 0, 5, 0);
        x.piece(2, 1, 0, 30, 0);
        x.piece(200, 1, 0, 25, 0);
        x.pair(0, 2, 1);
        x.pair(2, 0, 200);
        x.pair(0, 3, 200);
        x.pair(1, 0, 200);
        is("way(0, 0)", x.way(0, 0), 10);
        is("way(1, 0)", x.way(1, 0), 10);
        is("way(2, 0)", x.way(2, 0), ABSENT);
        is("way(4, 0)", x.way(4, 0), NONE);
        is("way(-1, 0)", x.way(-1, 0), NONE);
        for (int day : WRONG) is("way(0, " + day + ")", x.way(0, day), NONE);
        int[] pieces = {0, 3, 2, 1};
        for (int i = 0; i < 4; i++) {
            x.work(a(0, CRASH, i == 3 ? 2 : 1, 10 - i), b(1, 0), pieces[i]);
            x.crash(i);
            is("way(0, 0) after crash " + i, x.way(0, 0), new int[] {25, 30, ABSENT, ABSENT}[i]);
            is("way(3, 0) after crash " + i, x.way(3, 0), new int[] {30, 35, ABSENT, ABSENT}[i]);
        }
        is("way(0, 7)", x.way(0, 7), ABSENT);
        is("way(0, 8)", x.way(0, 8), 30);
        is("way(3, 8)", x.way(3, 8), 35);
        is("way(0, 9)", x.way(0, 9), 25);
        is("way(0, 10)", x.way(0, 10), 10);
        is("way(0, 399)", x.way(0, 399), 10);
        longestWay();
    }

    private static void longestWay() {
        RoadWorks x = new RoadWorks();
        for (int i = 18; i >= 0; i--) x.piece(100 * i + i + 1, 1, 0, 30, 0);
        x.pair(0, 19, 200);
        is("way through all crossings", x.way(0, 0), 19 * 30);
        is("shut(0)", x.shut(0), 1);
    }

    private static void promise19() {
        CHECK.part("promise 19");
        RoadWorks x = new RoadWorks();
        x.piece(1, 1, 0, 7, 0);
        x.piece(1, 1, 0, 9, 0);
        x.pair(0, 1, 6);
        x.pair(0, 1, 7);
        x.pair(0, 1, 8);
        x.pair(0, 1, 9);
        x.pair(0, 2, 200);
        for (int day : WRONG) is("shut(" + day + ")", x.shut(day), NONE);
        is("shut(0)", x.shut(0), 2);
        x.work(a(0, CRASH, 1, 5), b(1, 0), 0);
        x.crash(0);
        is("shut(0)", x.shut(0), 4);
        is("shut(4)", x.shut(4), 4);
        is("shut(5)", x.shut(5), 2);
        x.work(a(0, CRASH, 1, 3), b(1, 0), 1);
        x.crash(1);
        is("shut(2)", x.shut(2), 5);
        is("shut(3)", x.shut(3), 4);
        is("shut(399)", x.shut(399), 2);
    }

    private static void promise20() {
        CHECK.part("promise 20");
        RoadWorks x = street(4, 0, 0);
        x.work(a(0, SMALL, 2, 5), b(1, 4), 0);
        x.work(a(0, GUARANTEE, 1, 1), b(1, 0), 0);
        x.work(a(0, CRASH, 1, 1), b(1, 0), 0);
        is("price()", x.price(), 1500);
        x.permit(0, 10);
        is("price()", x.price(), 1012);
        x.permit(1, 3);
        is("price()", x.price(), 515);
        x.day(3);
        is("price()", x.price(), 515);
        x.day(3);
        x.crash(2);
        is("price()", x.price(), 21);
        x.withdraw(0);
        is("price()", x.price(), 9);
    }

    private static void promise21() {
        CHECK.part("promise 21");
        RoadWorks x = street(1, 0, 0);
        x.work(a(0, SMALL, 1, 5), b(1, 8), 0);
        x.work(a(0, SMALL, 1, 5), b(1, 0), 0);
        x.work(a(0, GREAT, 1, 5), b(1, 0), 0);
        x.work(a(0, CRASH, 1, 5), b(1, 0), 0);
        x.permit(0, 50);
        x.permit(1, 60);
        x.permit(2, 70);
        is("price()", x.price(), 500 + 42 + 60 + 70);
        is("better()", x.better(), 3);
        is("the least day, ahead of the wanted one", x.about(0, 1), 3);
        is("about(1, 1)", x.about(1, 1), 8);
        is("about(2, 1), with NOTICE", x.about(2, 1), 30);
        is("about(2, 10)", x.about(2, 10), 0);
        is("better()", x.better(), 0);
        is("price()", x.price(), 500 + 8 + 30);
        is("a work without DELAY stays", x.permit(0, 20), 0);
        x.work(a(0, SMALL, 1, 5), b(1, 21), 0);
        x.permit(4, 25);
        is("better()", x.better(), 2);
        is("about(0, 1)", x.about(0, 1), 3);
        is("about(4, 1)", x.about(4, 1), 13);
        betterAgainAndAgain();
        betterToday();
    }

    private static void betterAgainAndAgain() {
        RoadWorks x = street(1, 0, 0);
        x.work(a(0, SMALL, 1, 5), b(1, 0), 0);
        x.work(a(0, SMALL, 1, 10), b(1, 0), 0);
        x.work(a(0, SMALL, 1, 3), b(1, 100), 0);
        x.permit(0, 40);
        x.permit(1, 10);
        x.permit(2, 3);
        is("better() of three", x.better(), 3);
        is("about(0, 1), by way of 20", x.about(0, 1), 16);
        is("about(1, 1)", x.about(1, 1), 6);
        is("about(2, 1)", x.about(2, 1), 3);
    }

    private static void betterToday() {
        RoadWorks x = street(1, 0, 0);
        x.day(4);
        x.work(a(0, GUARANTEE, 1, 3), b(1, 0), 0);
        x.permit(0, 9);
        is("about(0, 0)", x.about(0, 0), 1);
        is("better()", x.better(), 1);
        is("about(0, 1)", x.about(0, 1), 4);
        is("BEGUN at once", x.about(0, 0), 2);
        is("count(6)", x.count(6), 1);
    }

    private static void promise21others() {
        CHECK.part("promise 21, the others");
        RoadWorks x = new RoadWorks();
        x.piece(1, 1, 2, 5, 0);
        x.piece(203, 1, 0, 5, 0);
        x.work(a(0, SMALL, 1, 5), b(1, 300), 0);
        x.work(a(0, SMALL, 1, 5), b(1, 0), 1);
        x.permit(0, 10);
        x.permit(1, 30);
        x.feast(12, 1);
        is("better(), while another breaks a rule", x.better(), 0);
        is("about(1, 1)", x.about(1, 1), 30);
        x.feast(12, 0);
        is("better()", x.better(), 1);
        is("about(1, 1)", x.about(1, 1), 3);
        RoadWorks y = street(4, 2, 0);
        y.work(a(0, GUARANTEE, 1, 9), b(1, 0), 0);
        y.work(a(0, SMALL, 1, 5), b(1, 0), 0);
        y.permit(1, 30);
        y.permit(0, 0);
        y.feast(1, 1);
        is("better(), while a BEGUN one breaks a rule", y.better(), 1);
        is("about(1, 1)", y.about(1, 1), 3);
    }

    private static void promise22() {
        CHECK.part("promise 22");
        RoadWorks x = street(4, 0, 0);
        x.piece(1, 4, 0, 5, 0);
        for (int i = 0; i < 4; i++) x.work(a(0, GUARANTEE, 1, 2), b(1, 0), 0);
        x.work(a(0, GUARANTEE, 1, 2), b(1, 0), 1);
        x.permit(3, 0);
        x.permit(1, 4);
        x.permit(0, 4);
        x.permit(2, 6);
        x.permit(4, 1);
        is("book(0, 0)", x.book(0, 0), 3);
        is("book(0, 1)", x.book(0, 1), NONE);
        is("book(7, 0)", x.book(7, 0), NONE);
        x.day(4);
        is("book(0, 0)", x.book(0, 0), 3);
        is("book(0, 1)", x.book(0, 1), 0);
        is("book(0, 2)", x.book(0, 2), 1);
        is("book(0, 3)", x.book(0, 3), NONE);
        x.day(2);
        is("book(0, 3)", x.book(0, 3), 2);
        is("book(0, 4)", x.book(0, 4), NONE);
        is("book(0, -1)", x.book(0, -1), NONE);
        is("book(0, MAX)", x.book(0, Integer.MAX_VALUE), NONE);
        is("book(1, 0)", x.book(1, 0), 4);
        is("book(1, 1)", x.book(1, 1), NONE);
        is("book(2, 0)", x.book(2, 0), NONE);
        is("book(-1, 0)", x.book(-1, 0), NONE);
    }

    private static void promise23() {
        CHECK.part("promise 23");
        RoadWorks x = street(4, 0, 0);
        x.piece(1, 4, 0, 5, 0);
        x.pair(0, 1, 9);
        for (int i = 0; i < 10; i++) x.work(a(0, GUARANTEE, 1, 2), b(1, 0), i % 2);
        x.permit(0, 0);
        for (int i = 1; i < 4; i++) x.permit(i, 8);
        x.day(5);
        for (int i = 4; i < 6; i++) x.permit(i, 5);
        x.withdraw(9);
        int[] due = {2, 1, 10, 5, 3, 3, 2, 1, 1};
        for (int what = 0; what <= 8; what++) is("count(" + what + ")", x.count(what), due[what]);
        is("count(9)", x.count(9), NONE);
        is("count(-1)", x.count(-1), NONE);
        is("count(MIN)", x.count(Integer.MIN_VALUE), NONE);
        is("count(MAX)", x.count(Integer.MAX_VALUE), NONE);
    }
}
