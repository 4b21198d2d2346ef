/** The edges of promises 13, 14 and 21: works that run over, crashes, what they move, and BETTER. */
public final class ShiftEdgesTest extends Edges {
    private ShiftEdgesTest() { }

    public static void main(String[] args) {
        over();
        overTo399();
        crash();
        who();
        why();
        where();
        chains();
        ends();
        joined();
        better();
        betterRules();
        betterOthers();
        betterOrder();
        end("ShiftEdgesTest");
    }

    private static void over() {
        edge("promise 13: n 1 .. 30", () -> {
            RoadWorks x = street(4, 0, 0);
            int w = work(x, GUARANTEE, 2);
            x.permit(w, 0);
            for (int n : new int[] {0, -1, 31, LEAST, MOST}) is(x.over(w, n), NONE);
            is(x.about(w, 2), 1);
            is(x.about(w, 3), 0);
            is(x.over(w, 1), 0);
            is(x.about(w, 2), 2);
            is(x.about(w, 3), 1);
            is(x.over(w, 30), 0);
            is(x.about(w, 2), 32);
            is(x.about(w, 3), 31);
        });
        edge("promise 13: NONE: no such work", () -> {
            RoadWorks x = street(4, 0, 0);
            x.permit(work(x, GUARANTEE, 2), 0);
            for (int no : new int[] {-1, 1, 59, 60, LEAST, MOST}) is(x.over(no, 1), NONE);
        });
        edge("promise 13: STATE: not BEGUN", () -> {
            RoadWorks x = street(4, 0, 0);
            int w = work(x, SMALL, 2), gone = work(x, SMALL, 2), crash = work(x, CRASH, 2);
            x.withdraw(gone);
            is(x.over(w, 1), STATE);
            is(x.over(gone, 1), STATE);
            is(x.over(crash, 1), STATE);
            x.permit(w, 3);
            is(x.over(w, 1), STATE);
            x.day(5);
            is(x.about(w, 0), ENDED);
            is(x.over(w, 1), STATE);
            is(x.about(w, 2), 4);
            is(x.about(w, 3), 0);
        });
        edge("promise 13: NONE comes before STATE", () -> {
            RoadWorks x = street(4, 0, 0);
            int w = work(x, SMALL, 2);
            is(x.over(w, 0), NONE);
            is(x.over(w, 31), NONE);
            is(x.over(w, 30), STATE);
        });
        edge("promise 13: on the last day still, on the next no more", () -> {
            RoadWorks x = street(4, 0, 0);
            int w = work(x, GUARANTEE, 2), v = work(x, GUARANTEE, 2);
            x.permit(w, 0);
            x.permit(v, 0);
            x.day(1);
            is(x.over(w, 1), 0);
            x.day(1);
            is(x.about(w, 0), BEGUN);
            is(x.over(v, 1), STATE);
            is(x.over(w, 1), 0);
            is(x.about(w, 2), 3);
        });
        edge("promise 13: of each sort that is BEGUN", () -> {
            RoadWorks x = street(4, 0, 0);
            int small = work(x, SMALL, 2), great = work(x, GREAT, 2);
            x.permit(small, 30);
            x.permit(great, 30);
            x.day(30);
            int crash = work(x, CRASH, 2), guarantee = work(x, GUARANTEE, 2);
            x.crash(crash);
            x.permit(guarantee, 30);
            for (int w : new int[] {small, great, crash, guarantee}) {
                is(x.over(w, 2), 0);
                is(x.about(w, 2), 33);
                is(x.about(w, 3), 2);
            }
        });
    }

    private static void overTo399() {
        edge("point 3: one that would last beyond 399 by OVER lasts up to it; OVER are the days more", () -> {
            RoadWorks x = street(4, 1, 0);
            int w = work(x, SMALL, 5);
            x.permit(w, 390);
            goTo(x, 390);
            is(x.over(w, 4), 0);
            is(x.about(w, 2), 398);
            is(x.about(w, 3), 4);
            is(x.over(w, 2), 0);
            is(x.about(w, 2), 399);
            is(x.about(w, 3), 5);
            is(x.about(w, 6), 5 * 20);
        });
        edge("point 3: OVER exactly to 399", () -> {
            RoadWorks x = street(4, 0, 0);
            int w = work(x, SMALL, 1);
            x.permit(w, 369);
            goTo(x, 369);
            is(x.over(w, 30), 0);
            is(x.about(w, 2), 399);
            is(x.about(w, 3), 30);
        });
        edge("point 3: one that lasts to 399 has no days more", () -> {
            RoadWorks x = street(4, 0, 0);
            int w = work(x, SMALL, 1);
            x.permit(w, 399);
            goTo(x, 399);
            is(x.over(w, 30), 0);
            is(x.about(w, 2), 399);
            is(x.about(w, 3), 0);
            is(x.about(w, 6), 0);
        });
    }

    private static void crash() {
        edge("promise 14: NONE: no such work", () -> {
            RoadWorks x = street(4, 0, 0);
            work(x, CRASH, 1);
            for (int no : new int[] {-1, 1, 59, 60, LEAST, MOST}) is(x.crash(no), NONE);
        });
        edge("promise 14: STATE: no CRASH", () -> {
            RoadWorks x = street(4, 0, 0);
            for (int sort : new int[] {SMALL, GREAT, GUARANTEE}) {
                int w = work(x, sort, 1);
                is(x.crash(w), STATE);
                is(x.about(w, 0), ASKED);
            }
        });
        edge("promise 14: STATE: not ASKED", () -> {
            RoadWorks x = street(4, 0, 0);
            int w = work(x, CRASH, 1), gone = work(x, CRASH, 1);
            x.withdraw(gone);
            is(x.crash(gone), STATE);
            is(x.crash(w), 0);
            is(x.crash(w), STATE);
            x.day(1);
            is(x.crash(w), STATE);
            is(x.about(w, 1), 0);
        });
        edge("point 3: a CRASH begins TODAY: it is BEGUN", () -> {
            RoadWorks x = street(4, 0, 0);
            int now = work(x, CRASH, 3), later = work(x, CRASH, 1);
            is(x.crash(now), 0);
            is(x.about(now, 0), BEGUN);
            is(x.about(now, 1), 0);
            is(x.about(now, 2), 2);
            x.day(7);
            is(x.about(now, 0), ENDED);
            is(x.crash(later), 0);
            is(x.about(later, 1), 7);
            is(x.about(later, 2), 7);
        });
        edge("point 3: a CRASH lasts to 399 at most", () -> {
            RoadWorks x = street(4, 0, 0);
            int fits = work(x, CRASH, 30), beyond = work(x, CRASH, 30), last = work(x, CRASH, 30);
            goTo(x, 370);
            x.crash(fits);
            is(x.about(fits, 2), 399);
            x.day(1);
            x.crash(beyond);
            is(x.about(beyond, 2), 399);
            is(x.about(beyond, 3), 0);
            is(x.over(beyond, 1), 0);
            is(x.about(beyond, 2), 399);
            goTo(x, 399);
            x.crash(last);
            is(x.about(last, 0), BEGUN);
            is(x.about(last, 1), 399);
            is(x.about(last, 2), 399);
        });
        edge("promise 14: a CRASH runs OVER as others do", () -> {
            RoadWorks x = street(4, 2, 0);
            int w = work(x, CRASH, 1);
            x.crash(w);
            is(x.over(w, 3), 0);
            is(x.about(w, 2), 3);
            is(x.about(w, 6), 90);
        });
    }

    private static void who() {
        edge("point 3: all PERMITTED works that break a rule are MOVED: how many", () -> {
            RoadWorks x = streets(3, 1);
            for (int p = 0; p < 3; p++) x.permit(work(x, 0, SMALL, 1, 2, 1, p), 4);
            is(x.crash(work(x, 0, CRASH, 1, 5, 1, 0, 1, 2)), 3);
            for (int w = 0; w < 3; w++) {
                is(x.about(w, 1), 5);
                is(x.about(w, 10), 1);
            }
        });
        edge("point 3: those that break none stay", () -> {
            RoadWorks x = streets(2, 1);
            int beside = work(x, 0, SMALL, 1, 2, 1, 1), behind = work(x, 0, SMALL, 1, 2, 1, 0);
            x.permit(beside, 3);
            x.permit(behind, 5);
            is(x.crash(work(x, 0, CRASH, 1, 5, 1, 0)), 0);
            is(x.about(beside, 1), 3);
            is(x.about(behind, 1), 5);
            is(x.about(behind, 10), 0);
        });
        edge("point 3: BEGUN, ENDED and ASKED ones are not MOVED", () -> {
            RoadWorks x = street(1, 0, 60);
            int ended = work(x, GUARANTEE, 1), begun = work(x, GUARANTEE, 5), asked = work(x, SMALL, 1);
            x.permit(ended, 0);
            x.day(1);
            x.permit(begun, 1);
            is(x.crash(work(x, 0, CRASH, 1, 5, 1, 0)), 0);
            is(x.about(ended, 1), 0);
            is(x.about(begun, 1), 1);
            is(x.about(asked, 0), ASKED);
        });
        edge("point 3: with those of a lesser number that are PERMITTED: those of a greater one do not count", () -> {
            RoadWorks x = street(1, 0, 0);
            int lesser = work(x, SMALL, 3), greater = work(x, SMALL, 3), crash = work(x, CRASH, 4);
            x.permit(lesser, 3);
            x.permit(greater, 6);
            is(x.crash(crash), 2);
            is(x.about(lesser, 1), 4);
            is(x.about(greater, 1), 7);
        });
        edge("point 3: with all that are BEGUN, of a greater number, too", () -> {
            RoadWorks x = street(1, 0, 0);
            int w = work(x, SMALL, 3), first = work(x, GUARANTEE, 1), last = work(x, GUARANTEE, 1);
            x.permit(w, 5);
            x.permit(first, 0);
            x.day(1);
            x.permit(last, 1);
            is(x.over(last, 4), 1);
            is(x.about(w, 1), 6);
        });
        edge("point 3: with all that are ENDED", () -> {
            RoadWorks x = streets(1, 1);
            x.piece(1, 1, 0, 5, 20);
            int ended = work(x, 0, GUARANTEE, 1, 1, 1, 1), w = work(x, 0, GUARANTEE, 1, 1, 1, 0, 1);
            x.permit(ended, 0);
            x.permit(w, 5);
            x.day(1);
            is(x.about(ended, 0), ENDED);
            int small = work(x, 0, SMALL, 1, 1, 1, 0, 1);
            x.permit(small, 26);
            is(x.crash(work(x, 0, CRASH, 1, 30, 1, 0)), 2);
            is(x.about(w, 1), 31);
            is(x.about(small, 1), 52);
        });
        edge("point 3: WITHDRAWN ones are no matter", () -> {
            RoadWorks x = street(1, 0, 0);
            int gone = work(x, SMALL, 3), w = work(x, SMALL, 3);
            x.permit(gone, 6);
            x.withdraw(gone);
            x.permit(w, 3);
            is(x.crash(work(x, CRASH, 5)), 1);
            is(x.about(w, 1), 5);
            is(x.about(gone, 0), WITHDRAWN);
        });
    }

    private static void why() {
        edge("point 3: rule 3, a FEAST told since", () -> {
            RoadWorks x = street(4, 2, 0);
            int w = work(x, SMALL, 3), crash = work(x, CRASH, 1);
            x.permit(w, 10);
            x.feast(11, 1);
            x.feast(14, 1);
            is(x.crash(crash), 1);
            is(x.about(w, 1), 15);
        });
        edge("point 3: rule 4", () -> {
            RoadWorks x = street(2, 0, 0);
            int w = work(x, 0, SMALL, 2, 3, 1, 0), one = work(x, 0, SMALL, 1, 3, 1, 0);
            x.permit(w, 10);
            x.permit(one, 3);
            is(x.crash(work(x, 0, CRASH, 1, 12, 1, 0)), 1);
            is(x.about(w, 1), 12);
            is(x.about(one, 1), 3);
        });
        edge("point 3: rule 5", () -> {
            RoadWorks x = street(4, 0, 0);
            int w = work(x, 1, SMALL, 1, 1, 5, 0), same = work(x, 0, SMALL, 1, 1, 5, 0), deep = work(x, 1, SMALL, 1, 1, 6, 0);
            for (int i = 0; i < 3; i++) x.permit(i, i == 1 ? 3 : 4);
            is(x.crash(work(x, 0, CRASH, 1, 5, 5, 0)), 1);
            is(x.about(w, 1), 5);
            is(x.about(same, 1), 3);
            is(x.about(deep, 1), 4);
        });
        edge("point 3: rule 6, REST behind", () -> {
            RoadWorks x = street(4, 0, 7);
            int w = work(x, SMALL, 3), guarantee = work(x, GUARANTEE, 3);
            x.permit(w, 10);
            x.permit(guarantee, 13);
            is(x.crash(work(x, CRASH, 4)), 1);
            is(x.about(w, 1), 11);
            is(x.about(guarantee, 1), 13);
        });
        edge("point 3: rule 7", () -> {
            RoadWorks x = streets(2, 1);
            x.pair(0, 1, 9);
            int w = work(x, 0, SMALL, 1, 3, 1, 0);
            x.permit(w, 10);
            is(x.crash(work(x, 0, CRASH, 1, 11, 1, 1)), 1);
            is(x.about(w, 1), 11);
        });
        edge("point 3: rules 1 and 2 move none", () -> {
            RoadWorks x = street(4, 0, 0);
            int w = work(x, GREAT, 3), last = work(x, SMALL, 3);
            x.permit(w, 30);
            x.permit(last, 397);
            x.day(29);
            is(x.crash(work(x, CRASH, 1)), 0);
            is(x.about(w, 1), 30);
            is(x.about(last, 1), 397);
        });
        edge("point 3: OVER that adds no day moves what breaks a rule, too", () -> {
            RoadWorks x = street(4, 2, 0);
            int w = work(x, SMALL, 30), other = work(x, GUARANTEE, 1);
            x.permit(w, 370);
            goTo(x, 370);
            x.permit(other, 390);
            x.feast(390, 1);
            is(x.over(w, 1), 1);
            is(x.about(other, 1), 391);
        });
    }

    private static void where() {
        edge("point 3: to the first day from its BEGINNING on, not ahead of it", () -> {
            RoadWorks x = street(1, 0, 0);
            int w = work(x, SMALL, 3), crash = work(x, CRASH, 1);
            x.permit(w, 50);
            x.feast(51, 1);
            is(x.crash(crash), 0);
            int begun = work(x, GUARANTEE, 1);
            x.day(1);
            x.permit(begun, 49);
            x.day(48);
            is(x.over(begun, 2), 1);
            is(x.about(w, 1), 52);
        });
        edge("point 3: without NOTICE", () -> {
            for (int sort : new int[] {SMALL, GREAT, GUARANTEE}) {
                RoadWorks x = street(1, 0, 0);
                int w = work(x, sort, 3), crash = work(x, CRASH, 2);
                x.permit(w, 31);
                x.day(30);
                is(x.crash(crash), 1);
                is(x.about(w, 1), 32);
            }
        });
        edge("point 3: for which it breaks none of 2 to 7: over a gap that is too short", () -> {
            RoadWorks x = street(1, 0, 0);
            int later = work(x, SMALL, 5), w = work(x, SMALL, 3);
            x.permit(later, 7);
            x.permit(w, 3);
            is(x.crash(work(x, CRASH, 5)), 1);
            is(x.about(later, 1), 7);
            is(x.about(w, 1), 12);
        });
        edge("point 3: into a gap that is just long enough", () -> {
            RoadWorks x = street(1, 0, 0);
            int later = work(x, SMALL, 5), w = work(x, SMALL, 3);
            x.permit(later, 8);
            x.permit(w, 3);
            is(x.crash(work(x, CRASH, 5)), 1);
            is(x.about(w, 1), 5);
        });
        edge("point 3: FEAST, REST and WAYS are kept on the new day", () -> {
            RoadWorks x = new RoadWorks();
            x.piece(1, 1, 2, 5, 2);
            x.piece(1, 1, 0, 5, 0);
            x.pair(0, 1, 9);
            int shuts = work(x, 0, SMALL, 1, 2, 1, 1), w = work(x, 0, SMALL, 1, 1, 1, 0);
            x.permit(shuts, 8);
            x.feast(10, 1);
            x.permit(w, 3);
            is(x.crash(work(x, 0, CRASH, 1, 5, 1, 0)), 1);
            is(x.about(w, 1), 7);
            x.feast(7, 1);
            is(x.crash(work(x, 0, CRASH, 1, 1, 1, 0)), 1);
            is(x.about(w, 1), 11);
            is(x.about(w, 10), 2);
        });
        edge("point 3: REST ahead of one of a lesser number is kept on the new day", () -> {
            for (int begin : new int[] {9, 10}) {
                RoadWorks x = street(1, 0, 2);
                int later = work(x, SMALL, 5), w = work(x, SMALL, 1);
                x.permit(later, begin);
                x.permit(w, 3);
                is(x.crash(work(x, CRASH, 5)), 1);
                is(x.about(later, 1), begin);
                is(x.about(w, 1), begin == 10 ? 7 : 16);
            }
        });
        edge("point 3: its last day goes with it", () -> {
            RoadWorks x = street(1, 0, 0);
            int w = work(x, SMALL, 7);
            x.permit(w, 3);
            x.crash(work(x, CRASH, 5));
            is(x.about(w, 1), 5);
            is(x.about(w, 2), 11);
            is(x.about(w, 0), PERMITTED);
            is(x.about(w, 3), 0);
            is(x.about(w, 7), 5);
        });
    }

    private static void chains() {
        edge("point 3: those MOVED ahead count where they are then", () -> {
            RoadWorks x = street(1, 0, 0);
            int first = work(x, SMALL, 3), second = work(x, SMALL, 3), third = work(x, SMALL, 3);
            x.permit(first, 3);
            x.permit(second, 6);
            x.permit(third, 9);
            is(x.crash(work(x, CRASH, 4)), 3);
            is(x.about(first, 1), 4);
            is(x.about(second, 1), 7);
            is(x.about(third, 1), 10);
        });
        edge("point 3: the place that one left is free for the next", () -> {
            RoadWorks x = street(1, 2, 0);
            int first = work(x, SMALL, 3), second = work(x, SMALL, 2);
            x.permit(first, 8);
            x.permit(second, 5);
            x.feast(10, 1);
            is(x.crash(work(x, CRASH, 7)), 2);
            is(x.about(first, 1), 11);
            is(x.about(second, 1), 7);
        });
        edge("point 3: the least number first", () -> {
            RoadWorks x = street(1, 0, 0);
            int first = work(x, SMALL, 2), second = work(x, SMALL, 2);
            x.permit(second, 3);
            x.permit(first, 5);
            is(x.crash(work(x, CRASH, 6)), 2);
            is(x.about(first, 1), 6);
            is(x.about(second, 1), 8);
        });
        edge("promise 16: how often it was MOVED", () -> {
            RoadWorks x = street(1, 0, 0);
            int w = work(x, SMALL, 2), crash = work(x, CRASH, 5);
            x.permit(w, 3);
            is(x.about(w, 10), 0);
            x.crash(crash);
            is(x.about(w, 10), 1);
            for (int i = 2; i <= 9; i++) {
                is(x.over(crash, 1), 1);
                is(x.about(w, 10), i);
            }
            is(x.permit(w, 50), 0);
            is(x.about(w, 10), 9);
            is(x.over(crash, 1), 0);
            is(x.about(w, 10), 9);
            is(x.about(crash, 10), 0);
        });
        edge("promise 13: how many OTHERS: it does not count itself", () -> {
            RoadWorks x = street(1, 0, 0);
            int w = work(x, GUARANTEE, 2);
            x.permit(w, 0);
            is(x.over(w, 5), 0);
        });
    }

    private static void ends() {
        edge("point 3: to the last day that is left", () -> {
            RoadWorks x = street(1, 0, 0);
            int w = work(x, SMALL, 1), begun = work(x, SMALL, 5);
            x.permit(w, 396);
            x.permit(begun, 390);
            goTo(x, 390);
            is(x.over(begun, 4), 1);
            is(x.about(w, 1), 399);
            is(x.about(w, 2), 399);
        });
        edge("point 3: if there is none it is WITHDRAWN, and counted", () -> {
            RoadWorks x = street(1, 0, 0);
            int w = work(x, SMALL, 1), begun = work(x, SMALL, 5);
            x.permit(w, 396);
            x.permit(begun, 390);
            goTo(x, 390);
            is(x.over(begun, 30), 1);
            is(x.about(w, 0), WITHDRAWN);
            is(x.about(w, 1), -1);
            is(x.about(w, 2), -1);
            is(x.about(w, 7), 0);
            is(x.about(w, 10), 0);
            is(x.count(8), 1);
        });
        edge("point 3: rule 2 keeps a long one from the last days", () -> {
            RoadWorks x = street(1, 0, 0);
            int fits = work(x, SMALL, 4), two = work(x, SMALL, 5), begun = work(x, SMALL, 1);
            x.permit(fits, 386);
            x.permit(two, 391);
            x.permit(begun, 385);
            goTo(x, 385);
            is(x.over(begun, 6), 2);
            is(x.about(fits, 1), 392);
            is(x.about(two, 0), WITHDRAWN);
        });
        edge("point 3: one that is WITHDRAWN counts no more for the next", () -> {
            RoadWorks x = street(1, 0, 0);
            int gone = work(x, SMALL, 9), next = work(x, SMALL, 1), begun = work(x, SMALL, 1);
            x.permit(gone, 388);
            x.permit(next, 397);
            x.permit(begun, 385);
            goTo(x, 385);
            is(x.over(begun, 9), 1);
            is(x.about(gone, 0), WITHDRAWN);
            is(x.about(next, 1), 397);
        });
        edge("promise 14: how many were MOVED or WITHDRAWN together", () -> {
            RoadWorks x = street(1, 0, 0);
            int gone = work(x, SMALL, 12), moved = work(x, SMALL, 2), crash = work(x, CRASH, 8);
            x.permit(gone, 385);
            x.permit(moved, 383);
            goTo(x, 382);
            is(x.crash(crash), 2);
            is(x.about(gone, 0), WITHDRAWN);
            is(x.about(moved, 1), 390);
        });
    }

    private static void joined() {
        edge("point 3: JOINED ones that both break a rule move one behind the other's count", () -> {
            RoadWorks x = street(1, 0, 0);
            int one = work(x, 0, GREAT, 1, 3, 1, 0), other = work(x, 1, GREAT, 1, 3, 2, 0);
            x.join(one, other);
            x.permit(one, 32);
            x.permit(other, 32);
            x.day(31);
            is(x.crash(work(x, 2, CRASH, 1, 3, 3, 0)), 2);
            is(x.about(one, 1), 34);
            is(x.about(other, 1), 34);
            is(x.about(one, 8), other);
        });
        edge("point 3: one of the lesser number is looked at without its JOINED one", () -> {
            RoadWorks x = street(3, 0, 0);
            int one = work(x, 0, GREAT, 2, 3, 1, 0), other = work(x, 1, GREAT, 3, 3, 2, 0);
            x.join(one, other);
            x.permit(one, 32);
            x.permit(other, 32);
            x.day(31);
            is(x.crash(work(x, 2, CRASH, 1, 3, 3, 0)), 1);
            is(x.about(one, 1), 32);
            is(x.about(other, 1), 34);
        });
        edge("point 3: one WITHDRAWN by a move is JOINED no more", () -> {
            RoadWorks x = street(2, 0, 0);
            int one = work(x, 0, GREAT, 1, 5, 1, 0), other = work(x, 1, GREAT, 1, 5, 2, 0);
            x.permit(one, 394);
            x.join(one, other);
            goTo(x, 390);
            is(x.crash(work(x, 2, CRASH, 2, 30, 3, 0)), 1);
            is(x.about(one, 0), WITHDRAWN);
            is(x.about(one, 8), -1);
            is(x.about(other, 8), -1);
        });
    }

    private static void better() {
        edge("promise 21: nothing to better: 0", () -> {
            RoadWorks x = street(1, 0, 0);
            is(x.better(), 0);
            int w = work(x, SMALL, 1);
            is(x.better(), 0);
            x.permit(w, 3);
            is(x.better(), 0);
            is(x.about(w, 1), 3);
        });
        edge("promise 21: how many times a work got another day; the PRICE is less then", () -> {
            RoadWorks x = street(1, 0, 0);
            int w = work(x, SMALL, 1);
            x.permit(w, 50);
            is(x.price(), 50);
            is(x.better(), 1);
            is(x.price(), 3);
            is(x.about(w, 0), PERMITTED);
            is(x.about(w, 1), 3);
            is(x.about(w, 2), 3);
            is(x.about(w, 10), 0);
            is(x.better(), 0);
        });
        edge("point 4: the PRICE is less then: not for a work without DELAY", () -> {
            RoadWorks x = street(1, 0, 0);
            int w = x.work(101, b(1, 50), 0);
            x.permit(w, 50);
            is(x.better(), 0);
            is(x.about(w, 1), 50);
            x.permit(w, 51);
            is(x.better(), 1);
            is(x.about(w, 1), 3);
        });
        edge("point 4: the least such day, ahead of the one WANTED, too", () -> {
            RoadWorks x = street(1, 0, 0);
            int other = work(x, SMALL, 3), w = x.work(102, b(1, 20), 0);
            x.permit(other, 4);
            x.permit(w, 50);
            is(x.better(), 2);
            is(x.about(other, 1), 3);
            is(x.about(w, 1), 6);
        });
        edge("point 4: PERMITTED works alone", () -> {
            RoadWorks x = street(4, 0, 0);
            int asked = work(x, SMALL, 1), gone = work(x, SMALL, 1), begun = work(x, SMALL, 30), crash = work(x, CRASH, 30);
            x.permit(gone, 50);
            x.withdraw(gone);
            x.permit(begun, 5);
            x.day(5);
            x.crash(crash);
            is(x.better(), 0);
            is(x.about(asked, 0), ASKED);
            is(x.about(begun, 1), 5);
            is(x.about(crash, 1), 5);
        });
        edge("point 4: a day from TODAY on, with NOTICE", () -> {
            RoadWorks x = streets(3, 1);
            int small = work(x, 0, SMALL, 1, 1, 1, 0), great = work(x, 0, GREAT, 1, 1, 1, 1);
            int guarantee = work(x, 0, GUARANTEE, 1, 1, 1, 2);
            x.day(10);
            for (int w = 0; w < 3; w++) x.permit(w, 90);
            is(x.better(), 3);
            is(x.about(small, 1), 13);
            is(x.about(great, 1), 40);
            is(x.about(guarantee, 1), 10);
            is(x.about(guarantee, 0), BEGUN);
        });
        edge("point 4: one day is enough, the next one is none", () -> {
            RoadWorks x = streets(2, 1);
            int now = work(x, 0, SMALL, 1, 1, 1, 0), late = work(x, 0, SMALL, 1, 1, 1, 1);
            x.permit(now, 3);
            x.permit(late, 4);
            is(x.better(), 1);
            is(x.about(now, 1), 3);
            is(x.about(late, 1), 3);
            x.day(1);
            is(x.better(), 0);
        });
    }

    private static void betterRules() {
        edge("point 4: at which it breaks no rule: 3 FEAST", () -> {
            RoadWorks x = street(1, 2, 0);
            int w = work(x, SMALL, 3);
            for (int day : new int[] {5, 8, 11, 14}) x.feast(day, 1);
            x.permit(w, 50);
            is(x.better(), 1);
            is(x.about(w, 1), 15);
        });
        edge("point 4: at which it breaks no rule: 4 LANES, with PERMITTED and BEGUN ones", () -> {
            RoadWorks x = street(1, 0, 0);
            int begun = work(x, GUARANTEE, 5), other = work(x, SMALL, 5), w = work(x, SMALL, 3);
            x.permit(begun, 0);
            x.permit(other, 7);
            x.permit(w, 50);
            is(x.better(), 2);
            is(x.about(other, 1), 5);
            is(x.about(w, 1), 10);
        });
        edge("point 4: at which it breaks no rule: with one of a greater number, too", () -> {
            RoadWorks x = street(1, 0, 0);
            int w = work(x, SMALL, 3), other = work(x, SMALL, 5);
            x.permit(other, 3);
            x.permit(w, 50);
            is(x.better(), 1);
            is(x.about(w, 1), 8);
        });
        edge("point 4: at which it breaks no rule: 5 DEPTH", () -> {
            RoadWorks x = street(4, 0, 0);
            x.permit(work(x, 0, SMALL, 1, 5, 7, 0), 3);
            int w = work(x, 1, SMALL, 1, 3, 7, 0);
            x.permit(w, 50);
            is(x.better(), 1);
            is(x.about(w, 1), 8);
        });
        edge("point 4: at which it breaks no rule: 6 REST behind and ahead", () -> {
            RoadWorks x = street(4, 0, 4);
            int begun = work(x, CRASH, 2), other = x.work(101, b(1, 30), 0), w = work(x, SMALL, 3);
            x.crash(begun);
            x.permit(other, 12);
            x.permit(w, 50);
            is(x.better(), 1);
            is(x.about(w, 1), 10);
            x.permit(w, 50);
            x.permit(other, 13);
            is(x.better(), 1);
            is(x.about(w, 1), 6);
        });
        edge("point 4: at which it breaks no rule: 7 WAYS", () -> {
            RoadWorks x = streets(2, 1);
            x.pair(0, 1, 9);
            x.permit(work(x, 0, SMALL, 1, 5, 1, 1), 3);
            int w = work(x, 0, SMALL, 1, 3, 1, 0);
            x.permit(w, 50);
            is(x.better(), 1);
            is(x.about(w, 1), 8);
        });
        edge("point 4: at which it breaks no rule: what it breaks now is no matter", () -> {
            RoadWorks x = street(1, 2, 0);
            int w = work(x, SMALL, 3);
            x.permit(w, 50);
            x.feast(51, 1);
            is(x.better(), 1);
            is(x.about(w, 1), 3);
        });
    }

    private static void betterOthers() {
        edge("point 4: and the others none with it there: a PERMITTED one that breaks rule 3", () -> {
            RoadWorks x = new RoadWorks();
            x.piece(1, 1, 2, 5, 0);
            x.piece(1, 1, 0, 5, 0);
            int other = work(x, 0, SMALL, 1, 3, 1, 0), w = work(x, 0, SMALL, 1, 3, 1, 1);
            x.permit(other, 3);
            x.permit(w, 50);
            x.feast(5, 1);
            is(x.better(), 0);
            is(x.about(w, 1), 50);
            x.feast(5, 0);
            is(x.better(), 1);
            is(x.about(w, 1), 3);
        });
        edge("point 4: and the others none with it there: of lesser and of greater numbers", () -> {
            RoadWorks x = new RoadWorks();
            for (int p = 0; p < 5; p++) x.piece(1, 1, p == 2 ? 0 : 2, 5, 0);
            for (int p = 0; p < 5; p++) x.permit(work(x, 0, SMALL, 1, 1, 1, p), p == 2 ? 50 : 3);
            for (int other : new int[] {4, 3, 1, 0, 1, 4, 0, 3}) {
                for (int p = 0; p < 5; p++) if (p != 2) x.permit(p, p == other ? 5 : 6);
                x.permit(2, 50);
                x.feast(5, 1);
                x.feast(3, 1);
                x.feast(4, 1);
                is(x.better(), 0);
                is(x.about(2, 1), 50);
                for (int day = 3; day <= 5; day++) x.feast(day, 0);
            }
            is(x.better(), 5);
            for (int w = 0; w < 5; w++) is(x.about(w, 1), 3);
        });
        edge("point 4: each PERMITTED one of them: a BEGUN one is no matter", () -> {
            RoadWorks x = new RoadWorks();
            x.piece(1, 1, 2, 5, 0);
            x.piece(1, 1, 0, 5, 0);
            int other = work(x, 0, GUARANTEE, 1, 3, 1, 0), w = work(x, 0, SMALL, 1, 3, 1, 1);
            x.permit(other, 0);
            x.permit(w, 50);
            x.feast(2, 1);
            is(x.better(), 1);
            is(x.about(w, 1), 3);
        });
        edge("point 4: looked at for rules 3 to 7: not for NOTICE", () -> {
            RoadWorks x = streets(2, 1);
            int other = work(x, 0, GREAT, 1, 3, 1, 0), w = work(x, 0, SMALL, 1, 3, 1, 1);
            x.permit(other, 30);
            x.permit(w, 50);
            x.day(29);
            is(x.better(), 1);
            is(x.about(w, 1), 32);
        });
        edge("point 4: the others none with it there: one that breaks rule 7 until w goes", () -> {
            RoadWorks x = streets(2, 1);
            int other = x.work(103, b(1, 50), 0), w = work(x, 0, SMALL, 1, 3, 1, 1);
            x.permit(other, 50);
            x.permit(w, 50);
            x.pair(0, 1, 9);
            is(x.may(other, 50), 7);
            is(x.better(), 1);
            is(x.about(w, 1), 3);
            is(x.may(other, 50), 0);
        });
    }

    private static void betterOrder() {
        edge("point 4: the least such work first", () -> {
            RoadWorks x = street(1, 0, 0);
            int first = work(x, SMALL, 5), second = work(x, SMALL, 1);
            x.permit(first, 50);
            x.permit(second, 40);
            is(x.better(), 2);
            is(x.about(first, 1), 3);
            is(x.about(second, 1), 8);
        });
        edge("point 4: as long as there is one: the lesser one again, when a greater one went", () -> {
            RoadWorks x = street(1, 0, 0);
            int first = work(x, SMALL, 5), second = work(x, SMALL, 3);
            x.permit(first, 50);
            x.permit(second, 4);
            // The first goes to 7; then the second to 3, and the first to 6.
            is(x.better(), 3);
            is(x.about(first, 1), 6);
            is(x.about(second, 1), 3);
        });
        edge("point 4: a day in the gap that a work leaves itself", () -> {
            RoadWorks x = street(1, 0, 9);
            int w = work(x, SMALL, 5);
            x.permit(w, 6);
            is(x.better(), 1);
            is(x.about(w, 1), 3);
        });
        edge("point 4: JOINED ones may go onto the same days", () -> {
            RoadWorks x = street(1, 0, 0);
            int one = work(x, 0, GREAT, 1, 5, 1, 0), other = work(x, 1, GREAT, 1, 3, 2, 0);
            x.permit(one, 50);
            x.permit(other, 30);
            is(x.better(), 1);
            is(x.about(one, 1), 33);
            x.permit(one, 50);
            x.join(one, other);
            is(x.better(), 1);
            is(x.about(one, 1), 30);
            is(x.about(other, 1), 30);
        });
        edge("point 4: 60 works, the last of them bettered", () -> {
            RoadWorks x = streets(30, 2);
            for (int i = 0; i < 60; i++) x.permit(x.work(101, b(1, i == 59 ? 0 : 9), i % 30), 9);
            is(x.better(), 1);
            is(x.about(58, 1), 9);
            is(x.about(59, 1), 3);
            is(x.better(), 0);
        });
        edge("point 4: 40 works at once", () -> {
            RoadWorks x = streets(40, 1);
            for (int i = 0; i < 40; i++) x.permit(work(x, 0, SMALL, 1, 5, 1, i), 300 - i);
            is(x.better(), 40);
            is(x.price(), 120);
        });
    }
}
