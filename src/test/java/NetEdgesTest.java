/** The edges of promises 1 to 4, 12, 17 to 19 and 23, and of the document's Terms, point 1: the net and its days. */
public final class NetEdgesTest extends Edges {
    private NetEdgesTest() { }

    public static void main(String[] args) {
        newObject();
        crossings();
        pieces();
        pairs();
        feasts();
        days();
        lanesTaken();
        ways();
        shut();
        counts();
        end("NetEdgesTest");
    }

    private static void newObject() {
        edge("constants: NONE = -1, FULL = -2, STATE = -3", () -> {
            is(RoadWorks.NONE, -1);
            is(RoadWorks.FULL, -2);
            is(RoadWorks.STATE, -3);
        });
        edge("promise 1: no pieces, no works", () -> {
            RoadWorks x = new RoadWorks();
            is(x.count(0), 0);
            is(x.count(1), 0);
            is(x.count(2), 0);
            for (int what = 4; what <= 8; what++) is(x.count(what), 0);
            is(x.lanes(0, 0), NONE);
            is(x.way(0, 0), NONE);
            is(x.about(0, 0), ABSENT);
            is(x.book(0, 0), NONE);
            is(x.work(101, 1000, 0), NONE);
        });
        edge("promise 1: TODAY 0", () -> is(new RoadWorks().count(3), 0));
        edge("promise 1: all calls of an empty object", () -> {
            RoadWorks x = new RoadWorks();
            is(x.shut(0), 0);
            is(x.price(), 0);
            is(x.better(), 0);
            is(x.why(0), NONE);
            is(x.why(1), NONE);
            is(x.may(0, 0), NONE);
            is(x.first(0, 0, 1), NONE);
            is(x.permit(0, 0), NONE);
            is(x.withdraw(0), NONE);
            is(x.over(0, 1), NONE);
            is(x.crash(0), NONE);
            is(x.join(0, 1), NONE);
            is(x.more(0, 0), NONE);
        });
        edge("promise 1: each object has its own memory", () -> {
            RoadWorks x = street(1, 0, 0);
            RoadWorks y = new RoadWorks();
            x.pair(0, 1, 9);
            x.feast(3, 1);
            work(x, SMALL, 1);
            x.may(0, 0);
            x.day(7);
            for (int what = 0; what <= 8; what++) is(y.count(what), 0);
            is(y.feast(3, 0), 0);
            is(y.why(0), NONE);
        });
    }

    private static void crossings() {
        edge("point 1: CROSSINGS 0 .. 19, the first one of a piece", () -> {
            RoadWorks x = new RoadWorks();
            is(x.piece(1, 1, 0, 1, 0), 0);
            is(x.piece(1901, 1, 0, 1, 0), 1);
            is(x.piece(2001, 1, 0, 1, 0), NONE);
            is(x.piece(9901, 1, 0, 1, 0), NONE);
            is(x.piece(10001, 1, 0, 1, 0), NONE);
        });
        edge("point 1: CROSSINGS 0 .. 19, the other one of a piece", () -> {
            RoadWorks x = new RoadWorks();
            is(x.piece(100, 1, 0, 1, 0), 0);
            is(x.piece(119, 1, 0, 1, 0), 1);
            is(x.piece(120, 1, 0, 1, 0), NONE);
            is(x.piece(199, 1, 0, 1, 0), NONE);
        });
        edge("promise 2: ends below 0", () -> {
            RoadWorks x = new RoadWorks();
            for (int ends : new int[] {-1, -99, -100, -101, -1918, LEAST, LEAST + 1}) is(x.piece(ends, 1, 0, 1, 0), NONE);
            is(x.piece(MOST, 1, 0, 1, 0), NONE);
        });
        edge("promise 2: NONE also if both ends are one", () -> {
            RoadWorks x = new RoadWorks();
            for (int c = 0; c < 20; c++) is(x.piece(101 * c, 1, 0, 1, 0), NONE);
        });
        edge("point 1: a PAIR's crossings 0 .. 19", () -> {
            RoadWorks x = new RoadWorks();
            is(x.pair(0, 19, 9), 0);
            is(x.pair(19, 0, 9), 1);
            is(x.pair(20, 0, 9), NONE);
            is(x.pair(0, 20, 9), NONE);
            is(x.pair(-1, 0, 9), NONE);
            is(x.pair(0, -1, 9), NONE);
            is(x.pair(LEAST, 0, 9), NONE);
            is(x.pair(0, MOST, 9), NONE);
        });
        edge("promise 3: NONE also if both crossings are one", () -> {
            RoadWorks x = new RoadWorks();
            for (int c = 0; c < 20; c++) is(x.pair(c, c, 9), NONE);
        });
    }

    private static void pieces() {
        edge("point 1: PIECES 0 .. 39, as they were made", () -> {
            RoadWorks x = new RoadWorks();
            for (int p = 0; p < 40; p++) is(x.piece(1, 1, 0, 1, 0), p);
            is(x.lanes(39, 0), 0);
            is(x.lanes(40, 0), NONE);
        });
        edge("promise 2: FULL", () -> {
            RoadWorks x = streets(40, 1);
            is(x.piece(1, 1, 0, 1, 0), FULL);
            is(x.piece(1, 1, 0, 1, 0), FULL);
            is(x.count(0), 40);
            is(x.work(101, 1000, 40), NONE);
        });
        edge("promise 2: NONE comes before FULL", () -> {
            RoadWorks x = streets(40, 1);
            is(x.piece(101, 1, 0, 1, 0), NONE);
            is(x.piece(1, 0, 0, 1, 0), NONE);
            is(x.piece(1, 1, 3, 1, 0), NONE);
            is(x.piece(1, 1, 0, 31, 0), NONE);
            is(x.piece(1, 1, 0, 1, 61), NONE);
        });
        edge("point 1: LANES of a piece 1 .. 4", () -> {
            RoadWorks x = new RoadWorks();
            for (int lanes : new int[] {0, 5, -1, LEAST, MOST}) is(x.piece(1, lanes, 0, 1, 0), NONE);
            is(x.piece(1, 1, 0, 1, 0), 0);
            is(x.piece(1, 4, 0, 1, 0), 1);
            is(x.count(0), 2);
        });
        edge("point 1: a RANK 0, 1, 2", () -> {
            RoadWorks x = new RoadWorks();
            for (int rank : new int[] {-1, 3, LEAST, MOST}) is(x.piece(1, 1, rank, 1, 0), NONE);
            for (int rank = 0; rank <= 2; rank++) is(x.piece(1, 1, rank, 1, 0), rank);
            is(x.count(0), 3);
        });
        edge("point 1: MINUTES 1 .. 30", () -> {
            RoadWorks x = new RoadWorks();
            for (int minutes : new int[] {0, 31, -1, LEAST, MOST}) is(x.piece(1, 1, 0, minutes, 0), NONE);
            is(x.piece(1, 1, 0, 30, 0), 0);
            x.pair(0, 1, 9);
            is(x.way(0, 0), 30);
            is(x.piece(1, 1, 0, 1, 0), 1);
            is(x.way(0, 0), 1);
        });
        edge("point 1: REST 0 .. 60 days", () -> {
            RoadWorks x = new RoadWorks();
            for (int rest : new int[] {-1, 61, LEAST, MOST}) is(x.piece(1, 1, 0, 1, rest), NONE);
            is(x.piece(1, 1, 0, 1, 0), 0);
            is(x.piece(1, 1, 0, 1, 60), 1);
        });
    }

    private static void pairs() {
        edge("point 1: PAIRS 0 .. 7, as they were told", () -> {
            RoadWorks x = new RoadWorks();
            x.piece(1, 1, 0, 1, 0);
            for (int i = 0; i < 8; i++) is(x.pair(0, 1, 9), i);
            is(x.way(7, 0), 1);
            is(x.way(8, 0), NONE);
        });
        edge("promise 3: FULL", () -> {
            RoadWorks x = new RoadWorks();
            for (int i = 0; i < 8; i++) x.pair(0, 1, 9);
            is(x.pair(0, 1, 9), FULL);
            is(x.count(1), 8);
        });
        edge("promise 3: NONE comes before FULL", () -> {
            RoadWorks x = new RoadWorks();
            for (int i = 0; i < 8; i++) x.pair(0, 1, 9);
            is(x.pair(0, 0, 9), NONE);
            is(x.pair(0, 20, 9), NONE);
            is(x.pair(0, 1, 0), NONE);
            is(x.pair(0, 1, 201), NONE);
        });
        edge("point 1: LIMIT 1 .. 200 minutes", () -> {
            RoadWorks x = new RoadWorks();
            for (int limit : new int[] {0, 201, -1, LEAST, MOST}) is(x.pair(0, 1, limit), NONE);
            is(x.pair(0, 1, 1), 0);
            is(x.pair(0, 1, 200), 1);
            is(x.count(1), 2);
        });
        edge("promise 3: the same PAIR may be told twice, and before there is a piece", () -> {
            RoadWorks x = new RoadWorks();
            is(x.pair(0, 1, 9), 0);
            is(x.pair(0, 1, 9), 1);
            is(x.shut(0), 2);
        });
    }

    private static void feasts() {
        edge("point 1: FEASTS, none at first", () -> {
            RoadWorks x = new RoadWorks();
            for (int day = 0; day < 400; day++) is(x.feast(day, 0), 0);
        });
        edge("promise 4: what it was", () -> {
            RoadWorks x = new RoadWorks();
            is(x.feast(8, 1), 0);
            is(x.feast(8, 1), 1);
            is(x.feast(8, 0), 1);
            is(x.feast(8, 0), 0);
            is(x.feast(8, 1), 0);
            is(x.feast(9, 0), 0);
            is(x.feast(7, 0), 0);
        });
        edge("promise 4: days 0 .. 399", () -> {
            RoadWorks x = new RoadWorks();
            for (int day : new int[] {-1, 400, LEAST, MOST}) {
                is(x.feast(day, 1), NONE);
                is(x.feast(day, 0), NONE);
            }
            for (int day : new int[] {0, 399}) {
                is(x.feast(day, 1), 0);
                is(x.feast(day, 0), 1);
            }
        });
        edge("promise 4: 1 or 0, another number is NONE", () -> {
            RoadWorks x = new RoadWorks();
            for (int is : new int[] {-1, 2, LEAST, MOST}) is(x.feast(8, is), NONE);
            is(x.feast(8, 1), 0);
            for (int is : new int[] {-1, 2, LEAST, MOST}) is(x.feast(8, is), NONE);
            is(x.feast(8, 1), 1);
        });
        edge("promise 4: a day that is over may be a FEAST too", () -> {
            RoadWorks x = new RoadWorks();
            x.day(10);
            is(x.feast(9, 1), 0);
            is(x.feast(10, 1), 0);
            is(x.feast(9, 0), 1);
        });
    }

    private static void days() {
        edge("promise 12: n 1 .. 100", () -> {
            RoadWorks x = new RoadWorks();
            for (int n : new int[] {0, -1, 101, LEAST, MOST}) is(x.day(n), NONE);
            is(x.count(3), 0);
            is(x.day(1), 1);
            is(x.day(100), 101);
        });
        edge("promise 12: NONE also if it would be beyond 399", () -> {
            RoadWorks x = new RoadWorks();
            goTo(x, 300);
            is(x.day(100), NONE);
            is(x.count(3), 300);
            is(x.day(99), 399);
            is(x.day(1), NONE);
            is(x.day(100), NONE);
            is(x.count(3), 399);
        });
        edge("point 3: a BEGUN work whose last day was the day before is ENDED", () -> {
            RoadWorks x = street(4, 0, 0);
            int w = work(x, GUARANTEE, 3);
            x.permit(w, 0);
            for (int day = 1; day <= 2; day++) {
                is(x.day(1), day);
                is(x.about(w, 0), BEGUN);
            }
            is(x.day(1), 3);
            is(x.about(w, 0), ENDED);
        });
        edge("point 3: a PERMITTED one whose BEGINNING it is is BEGUN", () -> {
            RoadWorks x = street(4, 0, 0);
            int w = work(x, SMALL, 3);
            x.permit(w, 5);
            x.day(4);
            is(x.about(w, 0), PERMITTED);
            x.day(1);
            is(x.about(w, 0), BEGUN);
            is(x.about(w, 1), 5);
            is(x.about(w, 2), 7);
        });
        edge("point 3: a work of one day is BEGUN on it and ENDED on the next", () -> {
            RoadWorks x = street(4, 0, 0);
            int w = work(x, SMALL, 1);
            x.permit(w, 5);
            x.day(5);
            is(x.about(w, 0), BEGUN);
            x.day(1);
            is(x.about(w, 0), ENDED);
        });
        edge("point 3: many days in one call go by one by one", () -> {
            RoadWorks x = street(4, 0, 0);
            int one = work(x, SMALL, 1);
            int thirty = work(x, SMALL, 30);
            int later = work(x, SMALL, 30);
            x.permit(one, 50);
            x.permit(thirty, 71);
            x.permit(later, 101);
            x.day(100);
            is(x.about(one, 0), ENDED);
            is(x.about(thirty, 0), BEGUN);
            is(x.about(later, 0), PERMITTED);
            x.day(1);
            is(x.about(thirty, 0), ENDED);
            is(x.about(later, 0), BEGUN);
        });
        edge("point 3: the others stay as they are", () -> {
            RoadWorks x = street(4, 0, 0);
            int asked = work(x, SMALL, 1);
            int withdrawn = work(x, SMALL, 1);
            int crash = work(x, CRASH, 1);
            x.withdraw(withdrawn);
            x.day(100);
            is(x.about(asked, 0), ASKED);
            is(x.about(withdrawn, 0), WITHDRAWN);
            is(x.about(crash, 0), ASKED);
        });
        edge("point 3: OVER puts the end off", () -> {
            RoadWorks x = street(4, 0, 0);
            int w = work(x, GUARANTEE, 3);
            x.permit(w, 0);
            x.day(2);
            x.over(w, 2);
            x.day(2);
            is(x.about(w, 0), BEGUN);
            x.day(1);
            is(x.about(w, 0), ENDED);
        });
        edge("point 3: what lasts to 399 does not end", () -> {
            RoadWorks x = street(4, 0, 0);
            int last = work(x, SMALL, 1);
            int ahead = work(x, SMALL, 1);
            x.permit(last, 399);
            x.permit(ahead, 398);
            goTo(x, 399);
            is(x.about(last, 0), BEGUN);
            is(x.about(ahead, 0), ENDED);
        });
    }

    private static void lanesTaken() {
        edge("promise 17: NONE: no such piece, no such day", () -> {
            RoadWorks x = street(4, 0, 0);
            for (int piece : new int[] {-1, 1, 39, 40, LEAST, MOST}) is(x.lanes(piece, 0), NONE);
            for (int day : new int[] {-1, 400, LEAST, MOST}) is(x.lanes(0, day), NONE);
            is(x.lanes(0, 0), 0);
            is(x.lanes(0, 399), 0);
        });
        edge("promise 17: from the BEGINNING to the last day", () -> {
            RoadWorks x = street(4, 0, 0);
            int w = work(x, 0, SMALL, 3, 5, 1, 0);
            x.permit(w, 10);
            is(x.lanes(0, 9), 0);
            for (int day = 10; day <= 14; day++) is(x.lanes(0, day), 3);
            is(x.lanes(0, 15), 0);
        });
        edge("promise 17: on day 0 and day 399", () -> {
            RoadWorks x = street(4, 0, 0);
            int first = work(x, GUARANTEE, 1);
            int last = work(x, SMALL, 1);
            x.permit(first, 0);
            x.permit(last, 399);
            is(x.lanes(0, 0), 1);
            is(x.lanes(0, 1), 0);
            is(x.lanes(0, 398), 0);
            is(x.lanes(0, 399), 1);
        });
        edge("promise 17: of PERMITTED, BEGUN and ENDED ones, not of ASKED and WITHDRAWN ones", () -> {
            RoadWorks x = street(4, 0, 0);
            int w = work(x, SMALL, 2);
            int gone = work(x, SMALL, 2);
            is(x.lanes(0, 4), 0);
            x.permit(w, 4);
            x.permit(gone, 4);
            is(x.lanes(0, 4), 2);
            x.withdraw(gone);
            is(x.lanes(0, 4), 1);
            x.day(4);
            is(x.lanes(0, 4), 1);
            x.day(9);
            is(x.about(w, 0), ENDED);
            is(x.lanes(0, 4), 1);
        });
        edge("promise 17: on its own pieces alone", () -> {
            RoadWorks x = streets(6, 4);
            int w = work(x, 0, SMALL, 2, 1, 1, 5, 1, 4, 0);
            x.permit(w, 3);
            int[] taken = {2, 2, 0, 0, 2, 2};
            for (int p = 0; p < 6; p++) is(x.lanes(p, 3), taken[p]);
        });
        edge("promise 17: the days that it runs OVER too", () -> {
            RoadWorks x = street(4, 0, 0);
            int w = work(x, GUARANTEE, 1);
            x.permit(w, 0);
            x.over(w, 2);
            is(x.lanes(0, 2), 1);
            is(x.lanes(0, 3), 0);
        });
        edge("point 2: CRASHES keep no rules: more LANES than the piece has", () -> {
            RoadWorks x = street(1, 0, 0);
            for (int i = 0; i < 3; i++) x.crash(work(x, 0, CRASH, 4, 2, 1, 0));
            is(x.lanes(0, 1), 12);
            is(x.lanes(0, 2), 0);
        });
        edge("point 2: JOINED works that last on a day take the most LANES that one of them takes", () -> {
            RoadWorks x = street(4, 0, 0);
            int less = work(x, 0, GREAT, 2, 4, 1, 0);
            int more = work(x, 1, GREAT, 3, 4, 2, 0);
            x.join(less, more);
            x.permit(less, 40);
            is(x.lanes(0, 43), 2);
            x.permit(more, 42);
            int[] taken = {0, 2, 2, 3, 3, 3, 3, 0};
            for (int i = 0; i < 8; i++) is(x.lanes(0, 39 + i), taken[i]);
            goTo(x, 44);
            for (int i = 0; i < 8; i++) is(x.lanes(0, 39 + i), taken[i]);
            goTo(x, 50);
            for (int i = 0; i < 8; i++) is(x.lanes(0, 39 + i), taken[i]);
        });
        edge("point 2: JOINED works of as many LANES take them once", () -> {
            RoadWorks x = street(4, 0, 0);
            int one = work(x, 0, GREAT, 2, 4, 1, 0);
            int other = work(x, 1, GREAT, 2, 4, 2, 0);
            int third = work(x, 2, GREAT, 2, 4, 3, 0);
            x.join(other, one);
            for (int w : new int[] {one, other, third}) x.permit(w, 40);
            is(x.lanes(0, 40), 4);
        });
    }

    private static void ways() {
        edge("promise 18: NONE: no such PAIR, no such day", () -> {
            RoadWorks x = street(1, 0, 0);
            x.pair(0, 1, 9);
            for (int pair : new int[] {-1, 1, 7, 8, LEAST, MOST}) is(x.way(pair, 0), NONE);
            for (int day : new int[] {-1, 400, LEAST, MOST}) is(x.way(0, day), NONE);
            is(x.way(0, 0), 5);
            is(x.way(0, 399), 5);
        });
        edge("promise 18: -5: there is none", () -> {
            RoadWorks x = street(1, 0, 0);
            x.pair(0, 2, 200);
            x.pair(2, 3, 200);
            is(x.way(0, 0), ABSENT);
            is(x.way(1, 0), ABSENT);
        });
        edge("promise 18: whatever LIMIT", () -> {
            RoadWorks x = new RoadWorks();
            x.piece(1, 1, 0, 30, 0);
            x.pair(0, 1, 1);
            is(x.way(0, 0), 30);
        });
        edge("promise 18: the fewest MINUTES, either way round", () -> {
            RoadWorks x = new RoadWorks();
            x.piece(100, 1, 0, 30, 0);
            x.piece(201, 1, 0, 9, 0);
            x.piece(2, 1, 0, 20, 0);
            x.pair(0, 1, 9);
            x.pair(1, 0, 9);
            is(x.way(0, 0), 29);
            is(x.way(1, 0), 29);
            x.piece(1, 1, 0, 28, 0);
            is(x.way(0, 0), 28);
        });
        edge("promise 18: a way through all 20 crossings, beyond every LIMIT", () -> {
            RoadWorks x = new RoadWorks();
            for (int c = 18; c >= 0; c--) x.piece(100 * c + c + 1, 1, 0, 30, 0);
            x.pair(0, 19, 200);
            x.pair(19, 0, 200);
            is(x.way(0, 0), 570);
            is(x.way(1, 0), 570);
        });
        edge("promise 18: a way through 40 pieces, the shortest of many", () -> {
            RoadWorks x = new RoadWorks();
            for (int c = 0; c < 19; c++) {
                x.piece(100 * c + c + 1, 1, 0, 2, 0);
                x.piece(100 * (c + 1) + c, 1, 0, 1 + 2 * (c % 2), 0);
            }
            x.pair(19, 0, 200);
            is(x.way(0, 0), 10 + 9 * 2);
        });
        edge("point 2: a piece is a way as long as fewer LANES are taken than it has", () -> {
            RoadWorks x = street(3, 0, 0);
            x.pair(0, 1, 9);
            x.crash(work(x, 0, CRASH, 2, 9, 1, 0));
            is(x.way(0, 0), 5);
            x.crash(work(x, 0, CRASH, 1, 4, 1, 0));
            is(x.way(0, 3), ABSENT);
            is(x.way(0, 4), 5);
            x.crash(work(x, 0, CRASH, 1, 2, 1, 0));
            is(x.way(0, 1), ABSENT);
            is(x.way(0, 3), ABSENT);
        });
        edge("point 2: a way on the days around a work", () -> {
            RoadWorks x = street(1, 0, 0);
            int w = work(x, SMALL, 3);
            x.permit(w, 10);
            x.pair(0, 1, 9);
            is(x.way(0, 9), 5);
            is(x.way(0, 10), ABSENT);
            is(x.way(0, 12), ABSENT);
            is(x.way(0, 13), 5);
        });
    }

    private static void shut() {
        edge("promise 19: NONE: no such day", () -> {
            RoadWorks x = street(1, 0, 0);
            for (int day : new int[] {-1, 400, LEAST, MOST}) is(x.shut(day), NONE);
            is(x.shut(0), 0);
            is(x.shut(399), 0);
        });
        edge("point 2: MINUTES of at most LIMIT together", () -> {
            RoadWorks x = new RoadWorks();
            x.piece(1, 1, 0, 4, 0);
            x.piece(102, 1, 0, 5, 0);
            x.pair(0, 2, 10);
            is(x.shut(0), 0);
            x.pair(0, 2, 9);
            is(x.shut(0), 0);
            x.pair(0, 2, 8);
            is(x.shut(0), 1);
        });
        edge("promise 19: none of 8 PAIRS, and all of them", () -> {
            RoadWorks x = street(1, 0, 0);
            for (int i = 0; i < 8; i++) x.pair(i % 2, 1 - i % 2, 5 + i);
            is(x.shut(1), 0);
            x.crash(work(x, CRASH, 2));
            is(x.shut(1), 8);
            is(x.shut(2), 0);
        });
        edge("promise 19: LIMIT 200 is kept by 200 minutes, not by more", () -> {
            RoadWorks x = new RoadWorks();
            for (int c = 0; c < 6; c++) x.piece(100 * c + c + 1, 1, 0, 30, 0);
            x.piece(607, 1, 0, 20, 0);
            x.piece(708, 1, 0, 1, 0);
            x.pair(0, 7, 200);
            is(x.shut(0), 0);
            x.pair(0, 8, 200);
            is(x.shut(0), 1);
            is(x.way(1, 0), 201);
        });
    }

    private static void counts() {
        edge("promise 23: NONE: another what", () -> {
            RoadWorks x = street(1, 0, 0);
            for (int what : new int[] {-1, 9, 10, LEAST, MOST}) is(x.count(what), NONE);
        });
        edge("promise 23: each what is another number", () -> {
            RoadWorks x = streets(3, 4);
            for (int i = 0; i < 4; i++) x.pair(0, 1, 9);
            for (int i = 0; i < 20; i++) work(x, i < 19 ? GUARANTEE : SMALL, 5);
            for (int i = 0; i < 2; i++) x.permit(i, 0);
            x.day(5);
            for (int i = 2; i < 6; i++) x.permit(i, 5);
            x.day(1);
            x.permit(19, 13);
            for (int i = 6; i < 8; i++) x.permit(i, 15);
            for (int i = 8; i < 14; i++) x.withdraw(i);
            int[] due = {3, 4, 20, 6, 5, 3, 4, 2, 6};
            for (int what = 0; what <= 8; what++) is(x.count(what), due[what]);
        });
        edge("promise 23: 60 works, all in one state", () -> {
            RoadWorks x = street(4, 0, 0);
            for (int i = 0; i < 60; i++) work(x, CRASH, 1);
            is(x.count(4), 60);
            for (int i = 0; i < 60; i++) x.crash(i);
            is(x.count(4), 0);
            is(x.count(6), 60);
            x.day(1);
            is(x.count(6), 0);
            is(x.count(7), 60);
        });
    }
}
