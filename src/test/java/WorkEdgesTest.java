/** The edges of promises 5, 6, 11, 15, 16, 20 and 22: works, what they cost, and the book. */
public final class WorkEdgesTest extends Edges {
    private WorkEdgesTest() { }

    public static void main(String[] args) {
        told();
        wrongNumbers();
        full();
        more();
        withdraw();
        join();
        joinedStates();
        about();
        cost();
        shares();
        fine();
        delay();
        price();
        book();
        end("WorkEdgesTest");
    }

    private static void told() {
        edge("promise 5: WORKS 0 .. 59, as they came", () -> {
            RoadWorks x = street(4, 0, 0);
            for (int w = 0; w < 60; w++) is(x.work(101, 1000, 0), w);
            is(x.about(59, 0), ASKED);
            is(x.about(60, 0), ABSENT);
        });
        edge("promise 5: ASKED at first, without BEGINNING, with one piece", () -> {
            RoadWorks x = street(4, 0, 0);
            int w = x.work(a(3, GREAT, 2, 7), b(4, 50), 0);
            int[] due = {ASKED, -1, -1, 0, 7 * 30, 7 * 30, 0, 0, -1, 1, 0};
            for (int what = 0; what <= 10; what++) is(x.about(w, what), due[what]);
            is(x.count(4), 1);
            is(x.lanes(0, 50), 0);
        });
        edge("promise 5: a: HOUSE, SORT, LANES and DAYS, each of them read", () -> {
            RoadWorks x = street(4, 0, 0);
            x.permit(x.work(a(0, SMALL, 1, 1), b(5, 0), 0), 50);
            int w = x.work(93430, b(5, 0), 0);
            is(x.about(w, 4), 30 * 40);
            is(x.may(w, 0), 0);
            is(x.may(w, 50), 4);
            int nine = x.work(a(9, GUARANTEE, 1, 1), b(5, 0), 0), zero = x.work(a(0, GUARANTEE, 1, 1), b(5, 0), 0);
            is(x.may(nine, 50), 5);
            is(x.may(zero, 50), 0);
        });
        edge("promise 5: b: DEPTH and the day from which it is WANTED, each of them read", () -> {
            RoadWorks x = street(4, 0, 0);
            int w = x.work(101, 9398, 0), v = x.work(10101, 9000, 0);
            x.permit(w, 399);
            is(x.about(w, 7), 1);
            is(x.may(v, 399), 5);
        });
    }

    private static void wrongNumbers() {
        edge("point 1: a HOUSE 0 .. 9", () -> {
            RoadWorks x = street(4, 0, 0);
            is(x.work(a(0, 0, 1, 1), 1000, 0), 0);
            is(x.work(a(9, 0, 1, 1), 1000, 0), 1);
            is(x.work(a(10, 0, 1, 1), 1000, 0), NONE);
            is(x.work(a(-1, 0, 1, 1), 1000, 0), NONE);
            is(x.work(a(214748, 0, 1, 1), 1000, 0), NONE);
        });
        edge("point 1: a SORT 0, 1, 2, 3", () -> {
            RoadWorks x = street(4, 0, 0);
            for (int sort = 0; sort <= 3; sort++) is(x.work(a(1, sort, 1, 1), 1000, 0), sort);
            for (int sort = 4; sort <= 9; sort++) is(x.work(a(1, sort, 1, 1), 1000, 0), NONE);
        });
        edge("point 1: LANES of a work 1 .. 4", () -> {
            RoadWorks x = street(4, 0, 0);
            is(x.work(a(1, 0, 0, 1), 1000, 0), NONE);
            for (int lanes = 1; lanes <= 4; lanes++) is(x.work(a(1, 0, lanes, 1), 1000, 0), lanes - 1);
            for (int lanes = 5; lanes <= 9; lanes++) is(x.work(a(1, 0, lanes, 1), 1000, 0), NONE);
        });
        edge("point 1: DAYS 1 .. 30", () -> {
            RoadWorks x = street(4, 0, 0);
            is(x.work(a(1, 0, 1, 0), 1000, 0), NONE);
            is(x.work(a(1, 0, 1, 1), 1000, 0), 0);
            is(x.work(a(1, 0, 1, 30), 1000, 0), 1);
            is(x.work(a(1, 0, 1, 31), 1000, 0), NONE);
            is(x.work(a(1, 0, 1, 99), 1000, 0), NONE);
        });
        edge("point 1: a DEPTH 1 .. 9", () -> {
            RoadWorks x = street(4, 0, 0);
            is(x.work(101, b(0, 0), 0), NONE);
            is(x.work(101, b(0, 399), 0), NONE);
            is(x.work(101, b(1, 0), 0), 0);
            is(x.work(101, b(9, 0), 0), 1);
            is(x.work(101, b(10, 0), 0), NONE);
            is(x.work(101, b(-1, 0), 0), NONE);
        });
        edge("point 1: WANTED from a day 0 .. 399", () -> {
            RoadWorks x = street(4, 0, 0);
            is(x.work(101, b(1, 0), 0), 0);
            is(x.work(101, b(1, 399), 0), 1);
            is(x.work(101, b(1, 400), 0), NONE);
            is(x.work(101, b(1, 999), 0), NONE);
            is(x.work(101, b(9, 400), 0), NONE);
        });
        edge("promise 5: a and b below 0 and far above", () -> {
            RoadWorks x = street(4, 0, 0);
            for (int no : new int[] {-1, -101, -1101, LEAST, LEAST + 101, MOST}) {
                is(x.work(no, 1000, 0), NONE);
                is(x.work(101, no, 0), NONE);
            }
            is(x.count(2), 0);
        });
        edge("promise 5: no such piece", () -> {
            RoadWorks x = streets(2, 4);
            for (int piece : new int[] {-1, 2, 39, 40, LEAST, MOST}) is(x.work(101, 1000, piece), NONE);
            is(x.work(101, 1000, 1), 0);
        });
    }

    private static void full() {
        edge("promise 5: FULL", () -> {
            RoadWorks x = street(4, 0, 0);
            for (int w = 0; w < 60; w++) x.work(101, 1000, 0);
            is(x.work(101, 1000, 0), FULL);
            is(x.count(2), 60);
            x.withdraw(59);
            is(x.work(101, 1000, 0), FULL);
        });
        edge("promise 5: NONE comes before FULL", () -> {
            RoadWorks x = street(4, 0, 0);
            for (int w = 0; w < 60; w++) x.work(101, 1000, 0);
            is(x.work(100, 1000, 0), NONE);
            is(x.work(101, 0, 0), NONE);
            is(x.work(101, 1000, 1), NONE);
        });
    }

    private static void more() {
        edge("promise 6: how many it has, up to 4", () -> {
            RoadWorks x = streets(5, 4);
            int w = work(x, SMALL, 1);
            for (int p = 1; p <= 3; p++) is(x.more(w, p), p + 1);
            is(x.about(w, 9), 4);
        });
        edge("promise 6: FULL: it has 4", () -> {
            RoadWorks x = streets(6, 4);
            int w = work(x, 0, SMALL, 1, 1, 1, 0, 1, 2, 3);
            is(x.more(w, 4), FULL);
            is(x.more(w, 5), FULL);
            is(x.about(w, 9), 4);
            x.permit(w, 3);
            is(x.lanes(4, 3), 0);
        });
        edge("promise 6: NONE also if it has it", () -> {
            RoadWorks x = streets(5, 4);
            int w = work(x, SMALL, 1);
            is(x.more(w, 0), NONE);
            is(x.more(w, 1), 2);
            is(x.more(w, 0), NONE);
            is(x.more(w, 1), NONE);
            is(x.more(w, 2), 3);
            is(x.more(w, 3), 4);
            for (int p = 0; p < 4; p++) is(x.more(w, p), NONE);
        });
        edge("promise 6: NONE: no such work, no such piece", () -> {
            RoadWorks x = streets(2, 4);
            int w = work(x, SMALL, 1);
            for (int no : new int[] {-1, 1, 59, 60, LEAST, MOST}) is(x.more(no, 1), NONE);
            for (int no : new int[] {-1, 2, 39, 40, 64, LEAST, MOST}) is(x.more(w, no), NONE);
            is(x.about(w, 9), 1);
        });
        edge("promise 6: pieces 31, 32 and 39 are told apart", () -> {
            RoadWorks x = streets(40, 4);
            int w = work(x, 0, SMALL, 1, 1, 1, 39);
            is(x.more(w, 7), 2);
            is(x.more(w, 31), 3);
            is(x.more(w, 32), 4);
            is(x.more(w, 39), NONE);
            x.permit(w, 3);
            for (int p = 0; p < 40; p++) is(x.lanes(p, 3), p == 7 || p == 31 || p == 32 || p == 39 ? 1 : 0);
        });
        edge("promise 6: STATE: not ASKED", () -> {
            RoadWorks x = streets(3, 4);
            int w = work(x, SMALL, 1), gone = work(x, SMALL, 1), crash = work(x, CRASH, 1);
            x.withdraw(gone);
            x.crash(crash);
            is(x.more(gone, 1), STATE);
            is(x.more(crash, 1), STATE);
            is(x.more(w, 1), 2);
            x.permit(w, 3);
            is(x.more(w, 2), STATE);
            x.day(3);
            is(x.more(w, 2), STATE);
            x.day(1);
            is(x.more(w, 2), STATE);
            is(x.about(w, 9), 2);
        });
        edge("promise 6: STATE: JOINED", () -> {
            RoadWorks x = streets(3, 4);
            int one = work(x, 0, GREAT, 1, 1, 1, 0), other = work(x, 1, GREAT, 1, 1, 2, 0);
            is(x.more(one, 1), 2);
            is(x.more(other, 1), 2);
            x.join(one, other);
            is(x.more(one, 2), STATE);
            is(x.more(other, 2), STATE);
            x.withdraw(other);
            is(x.more(one, 2), 3);
        });
        edge("promise 6: STATE as named before FULL, NONE before both", () -> {
            RoadWorks x = streets(5, 4);
            int w = work(x, 0, SMALL, 1, 1, 1, 0, 1, 2, 3);
            x.permit(w, 3);
            is(x.more(w, 4), STATE);
            is(x.more(w, 3), NONE);
            is(x.more(w, 5), NONE);
            int one = work(x, 0, GREAT, 1, 1, 1, 0, 1, 2, 3), other = work(x, 1, GREAT, 1, 1, 2, 3, 2, 1, 0);
            x.join(one, other);
            is(x.more(one, 4), STATE);
            is(x.more(other, 0), NONE);
        });
    }

    private static void withdraw() {
        edge("promise 11: ASKED or PERMITTED, of each sort", () -> {
            RoadWorks x = street(4, 0, 0);
            for (int sort = 0; sort <= 3; sort++) is(x.withdraw(work(x, sort, 1)), 1);
            for (int sort : new int[] {SMALL, GREAT, GUARANTEE}) {
                int w = work(x, sort, 1);
                x.permit(w, 50);
                is(x.withdraw(w), 1);
                is(x.about(w, 0), WITHDRAWN);
            }
            is(x.count(8), 7);
            is(x.lanes(0, 50), 0);
        });
        edge("promise 11: a WITHDRAWN one has no BEGINNING, last day and DELAY", () -> {
            RoadWorks x = street(4, 0, 0);
            int w = work(x, SMALL, 2);
            x.permit(w, 50);
            is(x.about(w, 7), 50);
            x.withdraw(w);
            is(x.about(w, 1), -1);
            is(x.about(w, 2), -1);
            is(x.about(w, 7), 0);
            is(x.price(), 0);
        });
        edge("promise 11: STATE: BEGUN, ENDED, WITHDRAWN", () -> {
            RoadWorks x = street(4, 0, 0);
            int w = work(x, GUARANTEE, 2), crash = work(x, CRASH, 2), gone = work(x, SMALL, 2);
            x.permit(w, 0);
            x.crash(crash);
            x.withdraw(gone);
            is(x.withdraw(w), STATE);
            is(x.withdraw(crash), STATE);
            is(x.withdraw(gone), STATE);
            x.day(2);
            is(x.withdraw(w), STATE);
            is(x.withdraw(crash), STATE);
            is(x.count(8), 1);
        });
        edge("promise 11: NONE", () -> {
            RoadWorks x = street(4, 0, 0);
            work(x, SMALL, 1);
            for (int no : new int[] {-1, 1, 59, 60, LEAST, MOST}) is(x.withdraw(no), NONE);
        });
        edge("promise 11: JOINED no more, both of them", () -> {
            RoadWorks x = street(4, 0, 0);
            int one = work(x, 0, GREAT, 1, 1, 1, 0), other = work(x, 1, GREAT, 1, 1, 2, 0);
            x.join(one, other);
            x.withdraw(one);
            is(x.about(one, 8), -1);
            is(x.about(other, 8), -1);
            is(x.about(other, 0), ASKED);
            is(x.about(other, 5), x.about(other, 4));
            is(x.join(other, work(x, 0, GREAT, 1, 1, 1, 0)), 1);
        });
    }

    private static void join() {
        edge("promise 15: NONE also the same one twice", () -> {
            RoadWorks x = street(4, 0, 0);
            int w = work(x, GREAT, 1);
            is(x.join(w, w), NONE);
            is(x.about(w, 8), -1);
        });
        edge("promise 15: NONE: no such work, the one or the other", () -> {
            RoadWorks x = street(4, 0, 0);
            int w = work(x, GREAT, 1);
            for (int no : new int[] {-1, 1, 59, 60, LEAST, MOST}) {
                is(x.join(w, no), NONE);
                is(x.join(no, w), NONE);
                is(x.join(no, no), NONE);
            }
        });
        edge("promise 15: NONE comes before STATE", () -> {
            RoadWorks x = street(4, 0, 0);
            int w = work(x, SMALL, 1);
            is(x.join(w, w), NONE);
            is(x.join(w, 9), NONE);
        });
        edge("point 4: two GREAT works", () -> {
            for (int sort : new int[] {SMALL, CRASH, GUARANTEE}) {
                RoadWorks x = street(4, 0, 0);
                int great = work(x, 0, GREAT, 1, 1, 1, 0), no = work(x, 1, sort, 1, 1, 2, 0);
                int alike = work(x, 2, sort, 1, 1, 3, 0);
                is(x.join(great, no), STATE);
                is(x.join(no, great), STATE);
                is(x.join(no, alike), STATE);
            }
        });
        edge("point 4: of different HOUSES", () -> {
            RoadWorks x = street(4, 0, 0);
            int w = work(x, 3, GREAT, 1, 1, 1, 0);
            is(x.join(w, work(x, 3, GREAT, 1, 1, 2, 0)), STATE);
            is(x.join(w, work(x, 4, GREAT, 1, 1, 2, 0)), 1);
        });
        edge("point 4: with other DEPTHS", () -> {
            RoadWorks x = street(4, 0, 0);
            int w = work(x, 3, GREAT, 1, 1, 1, 0);
            is(x.join(w, work(x, 4, GREAT, 1, 1, 1, 0)), STATE);
            is(x.join(w, work(x, 4, GREAT, 1, 1, 2, 0)), 1);
        });
        edge("point 4: with the same PIECES, in any order", () -> {
            RoadWorks x = streets(40, 4);
            int w = work(x, 0, GREAT, 1, 1, 1, 0, 32, 5);
            is(x.join(w, work(x, 1, GREAT, 1, 1, 2, 0, 32)), STATE);
            is(x.join(w, work(x, 1, GREAT, 1, 1, 2, 0, 32, 5, 6)), STATE);
            is(x.join(w, work(x, 1, GREAT, 1, 1, 2, 0, 32, 6)), STATE);
            is(x.join(w, work(x, 1, GREAT, 1, 1, 2, 5, 0, 32)), 1);
        });
        edge("point 4: LANES, DAYS and the day from which they are WANTED may differ", () -> {
            RoadWorks x = street(4, 0, 0);
            int w = x.work(a(0, GREAT, 1, 1), b(1, 0), 0), v = x.work(a(1, GREAT, 4, 30), b(9, 399), 0);
            is(x.join(w, v), 1);
        });
        edge("point 4: both ASKED or PERMITTED", () -> {
            RoadWorks x = street(4, 0, 0);
            int[] w = new int[6];
            for (int i = 0; i < 6; i++) w[i] = work(x, i, GREAT, 1, 1, 1 + i, 0);
            is(x.join(w[0], w[1]), 1);
            x.permit(w[2], 40);
            is(x.join(w[3], w[2]), 1);
            x.permit(w[4], 40);
            x.permit(w[5], 40);
            is(x.join(w[4], w[5]), 1);
        });
        edge("promise 15: 1, and each is JOINED with the other one", () -> {
            RoadWorks x = street(4, 0, 0);
            int one = work(x, 0, GREAT, 1, 1, 1, 0), other = work(x, 1, GREAT, 1, 1, 2, 0);
            is(x.about(one, 8), -1);
            is(x.join(other, one), 1);
            is(x.about(one, 8), other);
            is(x.about(other, 8), one);
        });
    }

    private static void joinedStates() {
        edge("point 4: not a BEGUN, ENDED or WITHDRAWN one", () -> {
            RoadWorks x = street(4, 0, 0);
            int w = work(x, 0, GREAT, 1, 1, 1, 0), v = work(x, 1, GREAT, 1, 1, 2, 0), gone = work(x, 2, GREAT, 1, 1, 3, 0);
            x.withdraw(gone);
            is(x.join(v, gone), STATE);
            is(x.join(gone, v), STATE);
            x.permit(w, 30);
            x.day(30);
            is(x.about(w, 0), BEGUN);
            is(x.join(w, v), STATE);
            is(x.join(v, w), STATE);
            x.day(1);
            is(x.about(w, 0), ENDED);
            is(x.join(w, v), STATE);
            is(x.join(v, w), STATE);
        });
        edge("point 4: a work is JOINED with one at most", () -> {
            RoadWorks x = street(4, 0, 0);
            int[] w = new int[4];
            for (int i = 0; i < 4; i++) w[i] = work(x, i, GREAT, 1, 1, 1 + i, 0);
            is(x.join(w[0], w[1]), 1);
            is(x.join(w[0], w[1]), STATE);
            is(x.join(w[1], w[0]), STATE);
            is(x.join(w[0], w[2]), STATE);
            is(x.join(w[2], w[0]), STATE);
            is(x.join(w[1], w[2]), STATE);
            is(x.join(w[2], w[1]), STATE);
            is(x.join(w[2], w[3]), 1);
            is(x.join(w[0], w[2]), STATE);
            is(x.about(w[0], 8), w[1]);
        });
        edge("point 4: they stay JOINED when they are BEGUN and ENDED", () -> {
            RoadWorks x = street(4, 0, 0);
            int one = work(x, 0, GREAT, 1, 1, 1, 0), other = work(x, 1, GREAT, 1, 1, 2, 0);
            x.join(one, other);
            x.permit(one, 30);
            x.permit(other, 31);
            x.day(31);
            is(x.about(one, 0), ENDED);
            is(x.about(other, 0), BEGUN);
            is(x.about(one, 8), other);
            is(x.about(other, 8), one);
            is(x.about(one, 5), 16);
            is(x.about(other, 5), 15);
            x.day(1);
            is(x.about(other, 0), ENDED);
            is(x.about(other, 8), one);
            is(x.about(one, 5), 16);
        });
    }

    private static void about() {
        edge("promise 16: -5: there is no such work", () -> {
            RoadWorks x = street(4, 0, 0);
            work(x, SMALL, 1);
            for (int no : new int[] {-1, 1, 59, 60, LEAST, MOST}) {
                for (int what = 0; what <= 11; what++) is(x.about(no, what), ABSENT);
            }
        });
        edge("promise 16: -5: there is no such what", () -> {
            RoadWorks x = street(4, 0, 0);
            work(x, SMALL, 1);
            for (int what : new int[] {-1, 11, 12, LEAST, MOST}) is(x.about(0, what), ABSENT);
        });
        edge("promise 16: BEGINNING and last day are -1 without", () -> {
            RoadWorks x = street(4, 0, 0);
            int w = work(x, SMALL, 1);
            is(x.about(w, 1), -1);
            is(x.about(w, 2), -1);
            x.permit(w, 3);
            is(x.about(w, 1), 3);
            is(x.about(w, 2), 3);
            x.day(9);
            is(x.about(w, 1), 3);
            is(x.about(w, 2), 3);
        });
        edge("promise 16: BEGINNING 0", () -> {
            RoadWorks x = street(4, 0, 0);
            int w = work(x, GUARANTEE, 1);
            x.permit(w, 0);
            is(x.about(w, 1), 0);
            is(x.about(w, 2), 0);
            x.day(9);
            is(x.about(w, 1), 0);
            is(x.about(w, 2), 0);
        });
    }

    private static void cost() {
        edge("point 4: COST: 20 and 10 times the RANK, and 5 for each LANE", () -> {
            for (int rank = 0; rank <= 2; rank++) {
                RoadWorks x = street(4, rank, 0);
                for (int lanes = 1; lanes <= 4; lanes++) {
                    is(x.about(work(x, 0, SMALL, lanes, 1, 1, 0), 4), 20 + 10 * rank + 5 * lanes);
                }
            }
        });
        edge("point 4: COST: for each of its pieces and days", () -> {
            RoadWorks x = new RoadWorks();
            for (int rank : new int[] {2, 1, 0, 2}) x.piece(1, 4, rank, 5, 0);
            is(x.about(work(x, 0, SMALL, 1, 1, 1, 0, 1, 2, 3), 4), 45 + 35 + 25 + 45);
            is(x.about(work(x, 0, SMALL, 4, 30, 1, 0, 1, 2, 3), 4), 30 * (60 + 50 + 40 + 60));
            is(x.about(work(x, 0, CRASH, 1, 7, 1, 2), 4), 7 * 25);
        });
        edge("point 4: COST: the dearest of all", () -> {
            RoadWorks x = new RoadWorks();
            for (int i = 0; i < 4; i++) x.piece(1, 4, 2, 5, 0);
            is(x.about(work(x, 0, GREAT, 4, 30, 1, 0, 1, 2, 3), 4), 7200);
            is(x.about(work(x, 1, GREAT, 4, 30, 2, 0, 1, 2, 3), 4), 7200);
            x.join(0, 1);
            is(x.about(0, 5), 4500);
            is(x.about(1, 5), 4500);
        });
        edge("point 4: COST: without OVER", () -> {
            RoadWorks x = street(4, 1, 0);
            int w = work(x, GUARANTEE, 3);
            x.permit(w, 0);
            x.over(w, 9);
            is(x.about(w, 4), 3 * 35);
            is(x.about(w, 5), 3 * 35);
        });
        edge("point 4: COST: the same in each state", () -> {
            RoadWorks x = street(4, 1, 0);
            int w = work(x, SMALL, 3), gone = work(x, SMALL, 3);
            is(x.about(w, 4), 105);
            x.permit(w, 3);
            is(x.about(w, 4), 105);
            x.day(3);
            is(x.about(w, 4), 105);
            x.day(9);
            is(x.about(w, 4), 105);
            x.withdraw(gone);
            is(x.about(gone, 4), 105);
            is(x.about(gone, 5), 105);
        });
    }

    private static void shares() {
        edge("point 4: a fourth of the lesser one, the rest away", () -> {
            RoadWorks x = street(4, 0, 0);
            int[] lesser = {25, 50, 75, 100};
            for (int days = 1; days <= 4; days++) {
                int one = work(x, 0, GREAT, 1, days, 1, 0), other = work(x, 1, GREAT, 4, 30, 2, 0);
                x.join(one, other);
                is(x.about(one, 5) + x.about(other, 5), 1200 + lesser[days - 1] / 4);
            }
        });
        edge("point 4: each pays its COST alone times the whole, divided by both COSTS, the rest away", () -> {
            RoadWorks x = street(4, 0, 0);
            int one = work(x, 0, GREAT, 1, 2, 1, 0), other = work(x, 1, GREAT, 3, 4, 2, 0);
            x.join(one, other);
            is(x.about(one, 4), 50);
            is(x.about(other, 4), 140);
            // The whole is 140 and 12 = 152; 50 * 152 / 190 = 40 and 140 * 152 / 190 = 112, without a rest.
            is(x.about(one, 5), 40);
            is(x.about(other, 5), 112);
        });
        edge("point 4: the one of the lesser number pays what is left besides", () -> {
            RoadWorks x = street(4, 0, 0);
            int one = work(x, 0, GREAT, 1, 1, 1, 0), other = work(x, 1, GREAT, 4, 1, 2, 0);
            x.join(other, one);
            // The whole is 40 and 6 = 46; 25 * 46 / 65 = 17.69 and 40 * 46 / 65 = 28.3.
            is(x.about(one, 5), 18);
            is(x.about(other, 5), 28);
            int first = work(x, 0, GREAT, 4, 1, 1, 0), second = work(x, 1, GREAT, 1, 1, 2, 0);
            x.join(first, second);
            is(x.about(first, 5), 29);
            is(x.about(second, 5), 17);
        });
        edge("point 4: of two alike with an odd whole", () -> {
            RoadWorks x = street(4, 0, 0);
            int one = work(x, 0, GREAT, 1, 1, 1, 0), other = work(x, 1, GREAT, 1, 1, 2, 0);
            x.join(one, other);
            is(x.about(one, 5), 16);
            is(x.about(other, 5), 15);
        });
        edge("point 4: that is never more than alone", () -> {
            RoadWorks x = new RoadWorks();
            for (int rank : new int[] {0, 2}) x.piece(1, 4, rank, 5, 0);
            for (int i = 0; i < 29; i++) {
                int one = work(x, 0, GREAT, 1 + i % 4, 1 + i, 1, i % 2), other = work(x, 1, GREAT, 1 + i / 8, 30 - i, 2, i % 2);
                is(x.join(one, other), 1);
                is(x.about(one, 5) <= x.about(one, 4) ? 1 : 0, 1);
                is(x.about(other, 5) <= x.about(other, 4) ? 1 : 0, 1);
            }
        });
        edge("promise 16: COST, when JOINED no more", () -> {
            RoadWorks x = street(4, 0, 0);
            int one = work(x, 0, GREAT, 1, 1, 1, 0), other = work(x, 1, GREAT, 1, 1, 2, 0);
            x.join(one, other);
            x.withdraw(one);
            is(x.about(one, 5), 25);
            is(x.about(other, 5), 25);
        });
    }

    private static void fine() {
        edge("point 3: FINE: for each day OVER 10 times the RANKS together, and 10", () -> {
            RoadWorks x = new RoadWorks();
            for (int rank : new int[] {0, 1, 2, 2}) x.piece(1, 4, rank, 5, 0);
            int[] due = {10, 20, 40, 60};
            for (int n = 1; n <= 4; n++) {
                int w = work(x, 0, CRASH, 4, 2, 1, 0);
                for (int p = 1; p < n; p++) x.more(w, p);
                x.crash(w);
                is(x.about(w, 6), 0);
                x.over(w, 1);
                is(x.about(w, 6), due[n - 1]);
                x.over(w, 30);
                is(x.about(w, 6), 31 * due[n - 1]);
            }
        });
        edge("point 3: FINE of an ENDED one stays", () -> {
            RoadWorks x = street(4, 1, 0);
            int w = work(x, CRASH, 1);
            x.crash(w);
            x.over(w, 2);
            x.day(9);
            is(x.about(w, 0), ENDED);
            is(x.about(w, 3), 2);
            is(x.about(w, 6), 40);
        });
    }

    private static void delay() {
        edge("point 4: DELAY: the days that its BEGINNING is behind the one WANTED, times its LANES", () -> {
            RoadWorks x = street(4, 0, 0);
            for (int lanes = 1; lanes <= 4; lanes++) {
                int w = x.work(a(0, SMALL, lanes, 1), b(1, 50), 0);
                x.permit(w, 57);
                is(x.about(w, 7), 7 * lanes);
                x.withdraw(w);
            }
        });
        edge("point 4: DELAY: 0 if it is not behind", () -> {
            RoadWorks x = street(4, 0, 0);
            int w = x.work(a(0, SMALL, 4, 1), b(1, 50), 0);
            int[] due = {0, 0, 4};
            for (int i = 0; i < 3; i++) {
                x.permit(w, 49 + i);
                is(x.about(w, 7), due[i]);
            }
        });
        edge("point 4: DELAY of one that is PERMITTED, BEGUN or ENDED; 0 without BEGINNING", () -> {
            RoadWorks x = street(4, 0, 0);
            int w = x.work(a(0, SMALL, 2, 3), b(1, 0), 0);
            is(x.about(w, 7), 0);
            x.permit(w, 5);
            is(x.about(w, 7), 10);
            x.day(5);
            is(x.about(w, 7), 10);
            x.over(w, 9);
            is(x.about(w, 7), 10);
            x.day(20);
            is(x.about(w, 0), ENDED);
            is(x.about(w, 7), 10);
        });
        edge("point 4: DELAY: the greatest of all", () -> {
            RoadWorks x = street(4, 0, 0);
            int w = x.work(a(0, SMALL, 4, 1), b(1, 0), 0);
            x.permit(w, 399);
            is(x.about(w, 7), 1596);
        });
    }

    private static void price() {
        edge("point 4: PRICE: 500 for each work that is ASKED", () -> {
            RoadWorks x = street(4, 0, 0);
            is(x.price(), 0);
            for (int i = 1; i <= 60; i++) {
                work(x, i % 4, 1);
                is(x.price(), 500 * i);
            }
            x.withdraw(0);
            is(x.price(), 500 * 59);
        });
        edge("point 4: PRICE: all DELAYS", () -> {
            RoadWorks x = street(4, 0, 0);
            int[] begin = {10, 20, 30};
            for (int i = 0; i < 3; i++) x.permit(x.work(a(0, SMALL, 1 + i, 3), b(1, 10), 0), begin[i]);
            is(x.price(), 10 * 2 + 20 * 3);
            x.day(20);
            is(x.price(), 80);
            x.day(30);
            is(x.price(), 80);
            work(x, CRASH, 1);
            is(x.price(), 580);
            x.crash(3);
            is(x.price(), 80 + 50);
        });
    }

    private static void book() {
        edge("promise 22: all works that are BEGUN or ENDED on it, no others", () -> {
            RoadWorks x = street(4, 0, 0);
            int begun = work(x, GUARANTEE, 9), ended = work(x, GUARANTEE, 1), permitted = work(x, SMALL, 1);
            int asked = work(x, SMALL, 1), gone = work(x, SMALL, 1), crash = work(x, CRASH, 9);
            x.permit(ended, 0);
            x.day(1);
            x.permit(begun, 1);
            x.permit(permitted, 50);
            x.withdraw(gone);
            x.day(1);
            x.crash(crash);
            int[] due = {ended, begun, crash, NONE, NONE};
            for (int i = 0; i < 5; i++) is(x.book(0, i), due[i]);
            is(x.about(asked, 0), ASKED);
        });
        edge("point 5: by BEGINNING, then by number", () -> {
            RoadWorks x = street(4, 0, 0);
            int[] days = {5, 3, 5, 4, 3};
            for (int i = 0; i < 5; i++) work(x, CRASH, 2);
            for (int day = 3; day <= 5; day++) {
                goTo(x, day);
                for (int i = 4; i >= 0; i--) if (days[i] == day) x.crash(i);
            }
            int[] due = {1, 4, 3, 0, 2, NONE};
            for (int i = 0; i < 6; i++) is(x.book(0, i), due[i]);
        });
        edge("promise 22: NONE: no such piece, no such i", () -> {
            RoadWorks x = streets(2, 4);
            x.crash(work(x, CRASH, 2));
            is(x.book(0, 0), 0);
            for (int piece : new int[] {-1, 2, 39, 40, LEAST, MOST}) is(x.book(piece, 0), NONE);
            for (int i : new int[] {-1, 1, 59, 60, LEAST, MOST}) is(x.book(0, i), NONE);
            is(x.book(1, 0), NONE);
        });
        edge("promise 22: of each of its pieces", () -> {
            RoadWorks x = streets(40, 4);
            x.crash(work(x, 0, CRASH, 1, 1, 1, 39, 0, 32));
            for (int p = 0; p < 40; p++) is(x.book(p, 0), p == 0 || p == 32 || p == 39 ? 0 : NONE);
        });
        edge("promise 22: 60 works, the last one first", () -> {
            RoadWorks x = street(4, 0, 0);
            for (int i = 0; i < 60; i++) work(x, CRASH, 1);
            for (int i = 59; i >= 0; i--) {
                x.crash(i);
                x.day(1);
            }
            for (int i = 0; i < 60; i++) is(x.book(0, i), 59 - i);
            is(x.book(0, 60), NONE);
        });
    }
}
