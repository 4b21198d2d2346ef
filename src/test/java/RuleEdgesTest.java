/** The edges of the seven rules (Terms, point 2) and of promises 7 to 10 that ask for them. */
public final class RuleEdgesTest extends Edges {
    private RuleEdgesTest() { }

    public static void main(String[] args) {
        notice();
        lastDay();
        feast();
        lanes();
        lanesOfJoined();
        depth();
        restBehind();
        restAhead();
        ways();
        waysOfOthers();
        order();
        who();
        may();
        why();
        first();
        permit();
        end("RuleEdgesTest");
    }

    private static void notice() {
        edge("NOTICE: a SMALL one, d less than TODAY and 3", () -> {
            RoadWorks x = street(4, 0, 0);
            int w = work(x, SMALL, 1);
            for (int d = 0; d <= 2; d++) is(x.may(w, d), 1);
            is(x.may(w, 3), 0);
        });
        edge("NOTICE: a GREAT one, d less than TODAY and 30", () -> {
            RoadWorks x = street(4, 0, 0);
            int w = work(x, GREAT, 1);
            for (int d : new int[] {0, 3, 29}) is(x.may(w, d), 1);
            is(x.may(w, 30), 0);
        });
        edge("NOTICE: a GUARANTEE, d less than TODAY", () -> {
            RoadWorks x = street(4, 0, 0);
            int w = work(x, GUARANTEE, 1);
            is(x.may(w, 0), 0);
            x.day(1);
            is(x.may(w, 0), 1);
            is(x.may(w, 1), 0);
        });
        edge("NOTICE: TODAY counts as it is then", () -> {
            RoadWorks x = street(4, 0, 0);
            int small = work(x, SMALL, 1), great = work(x, GREAT, 1), guarantee = work(x, GUARANTEE, 1);
            goTo(x, 200);
            is(x.may(small, 202), 1);
            is(x.may(small, 203), 0);
            is(x.may(great, 229), 1);
            is(x.may(great, 230), 0);
            is(x.may(guarantee, 199), 1);
            is(x.may(guarantee, 200), 0);
        });
        edge("NOTICE: the day is d, the piece the least of the work's", () -> {
            RoadWorks x = streets(4, 4);
            int w = work(x, 0, SMALL, 1, 1, 1, 3, 1, 2);
            is(x.may(w, 2), 1);
            why(x, 2, 1);
            is(x.may(w, 0), 1);
            why(x, 0, 1);
        });
        edge("NOTICE: no day is left near 399", () -> {
            RoadWorks x = street(4, 0, 0);
            int small = work(x, SMALL, 1), great = work(x, GREAT, 1), guarantee = work(x, GUARANTEE, 1);
            goTo(x, 396);
            is(x.may(small, 399), 0);
            goTo(x, 397);
            is(x.may(small, 399), 1);
            why(x, 399, 0);
            is(x.may(great, 399), 1);
            goTo(x, 399);
            is(x.may(guarantee, 398), 1);
            is(x.may(guarantee, 399), 0);
        });
        edge("NOTICE: of a PERMITTED one again", () -> {
            RoadWorks x = street(4, 0, 0);
            int w = work(x, SMALL, 1);
            x.permit(w, 5);
            x.day(3);
            is(x.may(w, 5), 1);
            is(x.permit(w, 5), -11);
            is(x.permit(w, 6), 0);
        });
    }

    private static void lastDay() {
        edge("END: it would last beyond day 399", () -> {
            RoadWorks x = street(4, 0, 0);
            int one = work(x, SMALL, 1), two = work(x, SMALL, 2), thirty = work(x, SMALL, 30);
            is(x.may(one, 399), 0);
            is(x.may(two, 399), 2);
            is(x.may(two, 398), 0);
            is(x.may(thirty, 371), 2);
            is(x.may(thirty, 370), 0);
        });
        edge("END: the day is 400, the piece the least of the work's", () -> {
            RoadWorks x = streets(4, 4);
            int w = work(x, 0, SMALL, 1, 5, 1, 3, 2);
            is(x.may(w, 399), 2);
            why(x, 400, 2);
            is(x.may(w, 396), 2);
            why(x, 400, 2);
        });
    }

    private static void feast() {
        edge("FEAST: the first and the last day of the work, not the days around", () -> {
            RoadWorks x = street(4, 2, 0);
            int w = work(x, SMALL, 5);
            x.feast(20, 1);
            is(x.may(w, 15), 0);
            is(x.may(w, 16), 3);
            is(x.may(w, 20), 3);
            is(x.may(w, 21), 0);
        });
        edge("FEAST: a piece has the RANK 2", () -> {
            RoadWorks x = new RoadWorks();
            for (int rank = 0; rank <= 2; rank++) x.piece(1, 4, rank, 5, 0);
            x.feast(20, 1);
            for (int rank = 0; rank <= 2; rank++) is(x.may(work(x, 0, SMALL, 1, 1, 1, rank), 20), rank == 2 ? 3 : 0);
        });
        edge("FEAST: of its own pieces alone", () -> {
            RoadWorks x = new RoadWorks();
            for (int p = 0; p < 6; p++) x.piece(1, 4, p == 0 || p == 5 ? 2 : p % 2, 5, 0);
            x.feast(20, 1);
            is(x.may(work(x, 0, SMALL, 1, 1, 1, 3), 20), 0);
            is(x.may(work(x, 0, SMALL, 1, 1, 1, 4, 3, 2, 1), 20), 0);
            is(x.may(work(x, 0, SMALL, 1, 1, 1, 4, 3, 2, 5), 20), 3);
            why(x, 20, 5);
        });
        edge("FEAST: the first day, then the first piece of RANK 2", () -> {
            RoadWorks x = new RoadWorks();
            for (int rank : new int[] {1, 2, 0, 2}) x.piece(1, 4, rank, 5, 0);
            int w = work(x, 0, SMALL, 1, 5, 1, 3, 2, 1, 0);
            x.feast(22, 1);
            x.feast(21, 1);
            is(x.may(w, 20), 3);
            why(x, 21, 1);
            is(x.may(w, 22), 3);
            why(x, 22, 1);
        });
        edge("FEAST: on day 0 and on day 399", () -> {
            RoadWorks x = street(4, 2, 0);
            int w = work(x, GUARANTEE, 1);
            x.feast(0, 1);
            x.feast(399, 1);
            is(x.may(w, 0), 3);
            why(x, 0, 0);
            is(x.may(w, 1), 0);
            is(x.may(w, 398), 0);
            is(x.may(w, 399), 3);
            why(x, 399, 0);
        });
        edge("FEAST: one that is taken back is none", () -> {
            RoadWorks x = street(4, 2, 0);
            int w = work(x, SMALL, 1);
            x.feast(20, 1);
            x.feast(20, 0);
            is(x.may(w, 20), 0);
        });
    }

    private static void lanes() {
        edge("LANES: more than the piece has, w's own alone", () -> {
            for (int has = 1; has <= 4; has++) {
                RoadWorks x = street(has, 0, 0);
                for (int takes = 1; takes <= 4; takes++) {
                    is(x.may(work(x, 0, SMALL, takes, 1, 1, 0), 50), takes > has ? 4 : 0);
                }
            }
        });
        edge("LANES: more than the piece has, together", () -> {
            for (int ahead = 1; ahead <= 3; ahead++) {
                RoadWorks x = street(4, 0, 0);
                x.permit(work(x, 0, SMALL, ahead, 1, 1, 0), 50);
                for (int takes = 1; takes <= 4; takes++) {
                    is(x.may(work(x, 0, SMALL, takes, 1, 1, 0), 50), ahead + takes > 4 ? 4 : 0);
                }
            }
        });
        edge("LANES: of three and more together", () -> {
            RoadWorks x = street(3, 0, 0);
            for (int i = 0; i < 3; i++) is(x.permit(work(x, SMALL, 2), 50 + i % 2), 0);
            int w = work(x, SMALL, 1);
            int[] due = {0, 0, 4, 0, 0};
            for (int i = 0; i < 5; i++) is(x.may(w, 49 + i), due[i]);
        });
        edge("LANES: the other's first and last day, not the days around", () -> {
            RoadWorks x = street(1, 0, 0);
            x.permit(work(x, SMALL, 5), 50);
            int w = work(x, SMALL, 3);
            is(x.may(w, 47), 0);
            is(x.may(w, 48), 4);
            why(x, 50, 0);
            is(x.may(w, 54), 4);
            why(x, 54, 0);
            is(x.may(w, 55), 0);
        });
        edge("LANES: the first day, then the first piece", () -> {
            RoadWorks x = streets(3, 1);
            x.permit(work(x, 0, SMALL, 1, 5, 1, 2), 50);
            x.permit(work(x, 0, SMALL, 1, 5, 1, 1), 51);
            int w = work(x, 0, SMALL, 1, 5, 1, 2, 1, 0);
            is(x.may(w, 49), 4);
            why(x, 50, 2);
            is(x.may(w, 51), 4);
            why(x, 51, 1);
        });
        edge("LANES: of the work's own pieces alone", () -> {
            RoadWorks x = streets(2, 1);
            x.permit(work(x, 0, SMALL, 1, 5, 1, 1), 50);
            is(x.may(work(x, 0, SMALL, 1, 5, 1, 0), 50), 0);
            is(x.may(work(x, 0, SMALL, 1, 5, 1, 0, 1), 50), 4);
            why(x, 50, 1);
        });
        edge("LANES: too many already are too many with w, too, even where w adds none", () -> {
            RoadWorks x = street(3, 0, 0);
            int one = work(x, 0, GREAT, 2, 30, 1, 0), other = work(x, 1, GREAT, 1, 5, 2, 0);
            int crash = work(x, 2, CRASH, 2, 30, 3, 0);
            x.join(one, other);
            x.permit(one, 30);
            x.day(30);
            x.over(one, 30);
            is(x.may(other, 60), 0);
            x.crash(crash);
            x.over(crash, 2);
            is(x.may(other, 61), 4);
            why(x, 61, 0);
            is(x.may(other, 62), 0);
        });
        edge("LANES: of each piece as many as that piece has", () -> {
            RoadWorks x = new RoadWorks();
            x.piece(1, 4, 0, 5, 0);
            x.piece(1, 2, 0, 5, 0);
            int w = work(x, 0, SMALL, 3, 5, 1, 0, 1);
            is(x.may(w, 50), 4);
            why(x, 50, 1);
        });
    }

    private static void lanesOfJoined() {
        edge("JOINED: together they take the most LANES that one of them takes", () -> {
            RoadWorks x = street(3, 0, 0);
            int less = work(x, 0, GREAT, 2, 5, 1, 0), more = work(x, 1, GREAT, 3, 5, 2, 0);
            x.permit(less, 40);
            is(x.may(more, 44), 4);
            x.join(less, more);
            is(x.may(more, 44), 0);
            is(x.permit(more, 44), 0);
            is(x.may(less, 40), 0);
        });
        edge("JOINED: a third one has what they leave", () -> {
            RoadWorks x = street(4, 0, 0);
            int less = work(x, 0, GREAT, 2, 5, 1, 0), more = work(x, 1, GREAT, 3, 5, 2, 0);
            x.join(less, more);
            x.permit(less, 40);
            x.permit(more, 43);
            int two = work(x, 2, SMALL, 2, 1, 3, 0), one = work(x, 2, SMALL, 1, 1, 3, 0);
            for (int d = 40; d <= 47; d++) {
                is(x.may(two, d), d < 43 ? 0 : 4);
                is(x.may(one, d), 0);
            }
            is(x.may(two, 48), 0);
        });
        edge("JOINED: with one that is ASKED still, w's own LANES alone count", () -> {
            RoadWorks x = street(2, 0, 0);
            int small = work(x, 0, GREAT, 1, 5, 1, 0), great = work(x, 1, GREAT, 4, 5, 2, 0);
            x.join(small, great);
            is(x.may(small, 40), 0);
            is(x.may(great, 40), 4);
        });
        edge("JOINED: on days on which one of them lasts alone, that one's LANES count", () -> {
            RoadWorks x = street(2, 0, 0);
            int one = work(x, 0, GREAT, 2, 5, 1, 0), other = work(x, 1, GREAT, 2, 5, 2, 0);
            x.join(one, other);
            x.permit(one, 40);
            x.permit(work(x, 2, SMALL, 1, 1, 3, 0), 46);
            is(x.may(other, 41), 0);
            is(x.may(other, 42), 4);
            why(x, 46, 0);
        });
        edge("JOINED no more: the LANES of both count again", () -> {
            RoadWorks x = street(2, 0, 0);
            int one = work(x, 0, GREAT, 1, 5, 1, 0), other = work(x, 1, GREAT, 1, 5, 2, 0);
            int small = work(x, 2, SMALL, 1, 5, 3, 0);
            x.join(one, other);
            x.permit(one, 40);
            x.permit(other, 40);
            is(x.may(small, 40), 0);
            x.withdraw(one);
            int third = work(x, 3, GREAT, 1, 5, 4, 0);
            is(x.permit(third, 40), 0);
            is(x.may(small, 40), 4);
        });
    }

    private static void depth() {
        edge("DEPTH: another work of another HOUSE on the piece and day with the same DEPTH", () -> {
            RoadWorks x = streets(2, 4);
            x.permit(work(x, 0, SMALL, 1, 1, 5, 0), 50);
            is(x.may(work(x, 1, SMALL, 1, 1, 5, 0), 50), 5);
            is(x.may(work(x, 0, SMALL, 1, 1, 5, 0), 50), 0);
            is(x.may(work(x, 1, SMALL, 1, 1, 4, 0), 50), 0);
            is(x.may(work(x, 1, SMALL, 1, 1, 6, 0), 50), 0);
            is(x.may(work(x, 1, SMALL, 1, 1, 5, 1), 50), 0);
            is(x.may(work(x, 1, SMALL, 1, 1, 5, 0), 49), 0);
            is(x.may(work(x, 1, SMALL, 1, 1, 5, 0), 51), 0);
        });
        edge("DEPTH: 1 and 9, HOUSE 0 and 9", () -> {
            RoadWorks x = street(4, 0, 0);
            x.permit(work(x, 0, SMALL, 1, 1, 1, 0), 50);
            x.permit(work(x, 9, SMALL, 1, 1, 9, 0), 50);
            is(x.may(work(x, 9, SMALL, 1, 1, 1, 0), 50), 5);
            is(x.may(work(x, 0, SMALL, 1, 1, 9, 0), 50), 5);
            is(x.may(work(x, 0, SMALL, 1, 1, 1, 0), 50), 0);
            is(x.may(work(x, 9, SMALL, 1, 1, 9, 0), 50), 0);
        });
        edge("DEPTH: the first and the last day that both last, not the days around", () -> {
            RoadWorks x = street(4, 0, 0);
            x.permit(work(x, 0, SMALL, 1, 5, 5, 0), 50);
            int w = work(x, 1, SMALL, 1, 3, 5, 0);
            is(x.may(w, 47), 0);
            is(x.may(w, 48), 5);
            why(x, 50, 0);
            is(x.may(w, 51), 5);
            why(x, 51, 0);
            is(x.may(w, 54), 5);
            why(x, 54, 0);
            is(x.may(w, 55), 0);
        });
        edge("DEPTH: the first day, then the first piece", () -> {
            RoadWorks x = streets(4, 4);
            x.permit(work(x, 0, SMALL, 1, 5, 5, 0), 52);
            x.permit(work(x, 0, SMALL, 1, 5, 5, 3), 51);
            x.permit(work(x, 0, SMALL, 1, 5, 5, 2, 3), 51);
            int w = work(x, 1, SMALL, 1, 5, 5, 3, 2, 1, 0);
            is(x.may(w, 50), 5);
            why(x, 51, 2);
            is(x.may(w, 52), 5);
            why(x, 52, 0);
        });
        edge("DEPTH: a greater number with an earlier day comes first", () -> {
            RoadWorks x = streets(2, 4);
            x.permit(work(x, 0, SMALL, 1, 5, 5, 0), 53);
            x.permit(work(x, 0, SMALL, 1, 5, 5, 1), 51);
            int w = work(x, 1, SMALL, 1, 5, 5, 0, 1);
            is(x.may(w, 50), 5);
            why(x, 51, 1);
        });
        edge("DEPTH: of any sort, CRASHES too", () -> {
            RoadWorks x = street(4, 0, 0);
            x.crash(work(x, 0, CRASH, 1, 5, 5, 0));
            int w = work(x, 1, GUARANTEE, 1, 5, 5, 0);
            is(x.may(w, 4), 5);
            is(x.may(w, 5), 0);
        });
    }

    private static void restBehind() {
        edge("REST: another's last day is less than d, but that and REST is at least d", () -> {
            for (int rest : new int[] {1, 2, 30, 60}) {
                RoadWorks x = street(4, 0, rest);
                x.permit(work(x, SMALL, 5), 50);
                int w = work(x, SMALL, 1);
                is(x.may(w, 54), 0);
                is(x.may(w, 55), 6);
                is(x.may(w, 54 + rest), 6);
                is(x.may(w, 55 + rest), 0);
            }
        });
        edge("REST 0: the next day is free", () -> {
            RoadWorks x = street(4, 0, 0);
            x.permit(work(x, SMALL, 5), 50);
            int w = work(x, SMALL, 1);
            is(x.may(w, 55), 0);
            is(x.may(w, 49), 0);
        });
        edge("REST: w is no GUARANTEE", () -> {
            RoadWorks x = street(4, 0, 10);
            x.permit(work(x, SMALL, 5), 50);
            is(x.may(work(x, GUARANTEE, 5), 55), 0);
            is(x.may(work(x, GREAT, 5), 55), 6);
            is(x.may(work(x, SMALL, 5), 55), 6);
        });
        edge("REST: behind another work of any sort", () -> {
            for (int sort : new int[] {SMALL, GREAT, CRASH, GUARANTEE}) {
                RoadWorks x = street(4, 0, 40);
                int other = work(x, sort, 5), w = work(x, SMALL, 1);
                if (sort == CRASH) x.crash(other);
                else x.permit(other, 30);
                int last = sort == CRASH ? 4 : 34;
                is(x.may(w, last + 1), 6);
                is(x.may(w, last + 40), 6);
                is(x.may(w, last + 41), 0);
            }
        });
        edge("REST: behind an ENDED one", () -> {
            RoadWorks x = street(4, 0, 60);
            x.permit(work(x, GUARANTEE, 1), 0);
            int w = work(x, SMALL, 1);
            x.day(50);
            is(x.about(0, 0), ENDED);
            is(x.may(w, 60), 6);
            why(x, 60, 0);
            is(x.may(w, 61), 0);
        });
        edge("REST: behind the days that one runs OVER", () -> {
            RoadWorks x = street(4, 0, 10);
            x.permit(work(x, GUARANTEE, 5), 0);
            x.over(0, 3);
            int w = work(x, SMALL, 1);
            is(x.may(w, 7), 0);
            is(x.may(w, 8), 6);
            is(x.may(w, 17), 6);
            is(x.may(w, 18), 0);
        });
        edge("REST: the day is d, the piece the first one that rests", () -> {
            RoadWorks x = new RoadWorks();
            for (int rest : new int[] {0, 3, 9, 9}) x.piece(1, 4, 0, 5, rest);
            x.permit(work(x, 0, SMALL, 1, 5, 1, 0, 1, 2, 3), 50);
            int w = work(x, 0, SMALL, 1, 5, 1, 3, 2, 1, 0);
            is(x.may(w, 57), 6);
            why(x, 57, 1);
            is(x.may(w, 58), 6);
            why(x, 58, 2);
            is(x.may(w, 63), 6);
            is(x.may(w, 64), 0);
        });
        edge("REST: of the same piece alone", () -> {
            RoadWorks x = new RoadWorks();
            for (int i = 0; i < 2; i++) x.piece(1, 4, 0, 5, 60);
            x.permit(work(x, 0, SMALL, 1, 5, 1, 0), 50);
            is(x.may(work(x, 0, SMALL, 1, 5, 1, 1), 55), 0);
        });
        edge("REST: of JOINED ones too", () -> {
            RoadWorks x = street(4, 0, 10);
            int one = work(x, 0, GREAT, 1, 5, 1, 0), other = work(x, 1, GREAT, 1, 5, 2, 0);
            x.join(one, other);
            x.permit(one, 50);
            is(x.may(other, 54), 0);
            is(x.may(other, 55), 6);
            is(x.may(other, 46), 0);
            is(x.may(other, 45), 6);
        });
    }

    private static void restAhead() {
        edge("REST: another one begins behind w's last day, but not behind that and REST", () -> {
            for (int rest : new int[] {1, 2, 30, 60}) {
                RoadWorks x = street(4, 0, rest);
                x.permit(work(x, SMALL, 5), 100);
                int w = work(x, SMALL, 3);
                is(x.may(w, 98), 0);
                is(x.may(w, 97), 6);
                why(x, 97, 0);
                is(x.may(w, 98 - rest), 6);
                why(x, 98 - rest, 0);
                is(x.may(w, 97 - rest), 0);
            }
        });
        edge("REST ahead: w may be a GUARANTEE", () -> {
            RoadWorks x = street(4, 0, 10);
            x.permit(work(x, SMALL, 5), 100);
            int w = work(x, GUARANTEE, 3);
            is(x.may(w, 98), 0);
            is(x.may(w, 97), 6);
            is(x.may(w, 88), 6);
            is(x.may(w, 87), 0);
        });
        edge("REST ahead: the other one is no GUARANTEE", () -> {
            RoadWorks x = street(4, 0, 10);
            x.permit(work(x, GUARANTEE, 5), 100);
            for (int sort : new int[] {SMALL, GREAT, GUARANTEE}) is(x.may(work(x, sort, 3), 97), 0);
        });
        edge("REST ahead: the day is d, the piece the first one", () -> {
            RoadWorks x = new RoadWorks();
            for (int rest : new int[] {9, 3, 0}) x.piece(1, 4, 0, 5, rest);
            x.permit(work(x, 0, SMALL, 1, 5, 1, 0, 1, 2), 100);
            int w = work(x, 0, SMALL, 1, 3, 1, 2, 1, 0);
            is(x.may(w, 97), 6);
            why(x, 97, 0);
            x.permit(work(x, 0, SMALL, 1, 1, 2, 1), 150);
            int v = work(x, 0, SMALL, 1, 3, 1, 2, 1, 0);
            is(x.may(v, 145), 6);
            why(x, 145, 1);
        });
    }

    private static void ways() {
        edge("WAYS: no LANE is left", () -> {
            RoadWorks x = street(3, 0, 0);
            x.pair(0, 1, 9);
            is(x.may(work(x, 0, SMALL, 2, 1, 1, 0), 50), 0);
            is(x.may(work(x, 0, SMALL, 3, 1, 1, 0), 50), 7);
            x.permit(0, 50);
            is(x.may(work(x, 0, SMALL, 1, 1, 1, 0), 50), 7);
        });
        edge("WAYS: MINUTES of at most LIMIT together", () -> {
            RoadWorks x = new RoadWorks();
            x.piece(1, 1, 0, 5, 0);
            x.piece(2, 1, 0, 7, 0);
            x.piece(102, 1, 0, 8, 0);
            int w = work(x, 0, SMALL, 1, 1, 1, 0);
            x.pair(0, 1, 15);
            is(x.may(w, 50), 0);
            x.pair(0, 1, 14);
            is(x.may(w, 50), 7);
            why(x, 50, 1);
        });
        edge("WAYS: a PAIR that had none on that day without w, too, is no matter of it", () -> {
            RoadWorks x = street(1, 0, 0);
            int w = work(x, SMALL, 1);
            x.pair(0, 1, 4);
            x.pair(0, 2, 200);
            is(x.may(w, 50), 0);
            x.pair(1, 0, 5);
            is(x.may(w, 50), 7);
            why(x, 50, 2);
        });
        edge("WAYS: without a PAIR, and off the ways of all PAIRS", () -> {
            RoadWorks x = new RoadWorks();
            x.piece(1, 1, 0, 5, 0);
            x.piece(203, 1, 0, 5, 0);
            is(x.may(work(x, 0, SMALL, 1, 1, 1, 0), 50), 0);
            x.pair(2, 3, 9);
            is(x.may(work(x, 0, SMALL, 1, 1, 1, 0), 50), 0);
            is(x.may(work(x, 0, SMALL, 1, 1, 1, 1), 50), 7);
        });
        edge("WAYS: of 8 PAIRS, the last one, and none", () -> {
            RoadWorks x = streets(2, 1);
            for (int i = 0; i < 7; i++) x.pair(0, 1, 9);
            x.piece(1819, 1, 0, 5, 0);
            x.pair(18, 19, 9);
            is(x.may(work(x, 0, SMALL, 1, 1, 1, 0), 50), 0);
            is(x.may(work(x, 0, SMALL, 1, 1, 1, 0, 2), 50), 7);
            why(x, 50, 7);
        });
        edge("WAYS: the first day, then the first PAIR", () -> {
            RoadWorks x = new RoadWorks();
            x.piece(1, 1, 0, 5, 0);
            x.piece(1, 1, 0, 9, 0);
            x.pair(2, 3, 200);
            x.pair(0, 1, 9);
            x.pair(0, 1, 5);
            x.pair(0, 1, 8);
            int w = work(x, 0, SMALL, 1, 5, 1, 0);
            is(x.may(w, 50), 7);
            why(x, 50, 2);
            x.permit(work(x, 0, SMALL, 1, 5, 1, 1), 52);
            x.crash(work(x, 0, CRASH, 1, 1, 1, 0));
            int v = work(x, 0, SMALL, 1, 5, 1, 0);
            is(x.may(v, 53), 7);
            why(x, 53, 1);
            is(x.may(v, 48), 7);
            why(x, 48, 2);
        });
        edge("WAYS: a lesser PAIR on a later day comes behind", () -> {
            RoadWorks x = new RoadWorks();
            x.piece(1, 1, 0, 5, 0);
            x.piece(1, 1, 0, 5, 0);
            x.piece(102, 1, 0, 5, 0);
            x.pair(0, 1, 9);
            x.pair(1, 2, 9);
            x.permit(work(x, 0, SMALL, 1, 3, 1, 1), 52);
            int w = work(x, 0, SMALL, 1, 3, 1, 0, 2);
            is(x.may(w, 50), 7);
            why(x, 50, 1);
            is(x.may(w, 52), 7);
            why(x, 52, 0);
        });
        edge("WAYS: pieces of the work that together shut all ways", () -> {
            RoadWorks x = streets(4, 1);
            x.pair(0, 1, 9);
            is(x.may(work(x, 0, SMALL, 1, 1, 1, 0, 1, 2), 50), 0);
            is(x.may(work(x, 0, SMALL, 1, 1, 1, 0, 1, 2, 3), 50), 7);
        });
    }

    private static void waysOfOthers() {
        edge("WAYS: beside another work, on the first and the last day that both last", () -> {
            RoadWorks x = streets(2, 1);
            x.pair(0, 1, 9);
            x.permit(work(x, 0, SMALL, 1, 5, 1, 0), 50);
            int w = work(x, 0, SMALL, 1, 3, 1, 1);
            is(x.may(w, 47), 0);
            is(x.may(w, 48), 7);
            why(x, 50, 0);
            is(x.may(w, 54), 7);
            why(x, 54, 0);
            is(x.may(w, 55), 0);
        });
        edge("WAYS: what a CRASH shuts is no matter of w, what both shut is", () -> {
            RoadWorks x = streets(2, 1);
            x.piece(102, 1, 0, 5, 0);
            x.pair(1, 2, 9);
            x.pair(0, 1, 9);
            x.crash(work(x, 0, CRASH, 1, 9, 1, 2));
            is(x.may(work(x, 0, SMALL, 1, 1, 1, 0), 8), 0);
            x.crash(work(x, 0, CRASH, 1, 7, 1, 1));
            int w = work(x, 0, SMALL, 1, 1, 1, 0);
            is(x.may(w, 6), 7);
            why(x, 6, 1);
            is(x.may(w, 7), 0);
        });
        edge("WAYS: JOINED ones shut no more than the greater of both", () -> {
            RoadWorks x = street(3, 0, 0);
            x.pair(0, 1, 9);
            int one = work(x, 0, GREAT, 2, 5, 1, 0), other = work(x, 1, GREAT, 1, 5, 2, 0);
            x.permit(one, 50);
            is(x.may(other, 50), 7);
            x.join(one, other);
            is(x.may(other, 50), 0);
            is(x.may(other, 52), 0);
        });
        edge("WAYS: a PAIR told behind counts, too", () -> {
            RoadWorks x = street(1, 0, 0);
            int w = work(x, SMALL, 1);
            is(x.permit(w, 50), 0);
            x.pair(0, 1, 9);
            is(x.may(w, 50), 7);
        });
        edge("WAYS: a piece made behind opens a way", () -> {
            RoadWorks x = street(1, 0, 0);
            x.pair(0, 1, 9);
            int w = work(x, SMALL, 1);
            is(x.may(w, 50), 7);
            x.piece(100, 1, 0, 9, 0);
            is(x.may(w, 50), 0);
        });
    }

    private static void order() {
        edge("the rules in this order: 1 NOTICE ahead of 2 END", () -> {
            RoadWorks x = street(1, 0, 0);
            int w = work(x, SMALL, 30);
            goTo(x, 370);
            is(x.may(w, 372), 1);
            is(x.may(w, 373), 2);
        });
        edge("the rules in this order: 1 NOTICE ahead of 3 FEAST", () -> {
            RoadWorks x = street(1, 2, 0);
            int w = work(x, SMALL, 5);
            x.feast(4, 1);
            is(x.may(w, 2), 1);
            is(x.may(w, 3), 3);
        });
        edge("the rules in this order: 2 END ahead of 3 FEAST", () -> {
            RoadWorks x = street(1, 2, 0);
            int w = work(x, SMALL, 5);
            x.feast(396, 1);
            is(x.may(w, 396), 2);
            is(x.may(w, 395), 3);
        });
        edge("the rules in this order: 2 END ahead of 4 LANES", () -> {
            RoadWorks x = street(1, 0, 0);
            int w = work(x, 0, SMALL, 2, 5, 1, 0);
            is(x.may(w, 396), 2);
            is(x.may(w, 395), 4);
        });
        edge("the rules in this order: 3 FEAST on a later day ahead of 4 LANES", () -> {
            RoadWorks x = street(1, 2, 0);
            int w = work(x, 0, SMALL, 2, 5, 1, 0);
            x.feast(54, 1);
            is(x.may(w, 50), 3);
            why(x, 54, 0);
            is(x.may(w, 49), 4);
        });
        edge("the rules in this order: 4 LANES on a later day ahead of 5 DEPTH", () -> {
            RoadWorks x = streets(2, 2);
            x.permit(work(x, 1, SMALL, 1, 9, 1, 0), 50);
            x.permit(work(x, 0, SMALL, 2, 1, 1, 1), 54);
            int w = work(x, 0, SMALL, 1, 5, 1, 0, 1);
            is(x.may(w, 50), 4);
            why(x, 54, 1);
            is(x.may(w, 49), 5);
            why(x, 50, 0);
        });
        edge("the rules in this order: 5 DEPTH on a later day ahead of 6 REST", () -> {
            RoadWorks x = street(4, 0, 9);
            x.permit(work(x, 0, SMALL, 1, 1, 1, 0), 49);
            x.permit(work(x, 1, GUARANTEE, 1, 1, 2, 0), 54);
            int w = work(x, 2, SMALL, 1, 5, 2, 0), v = work(x, 2, SMALL, 1, 4, 2, 0);
            is(x.may(w, 50), 5);
            why(x, 54, 0);
            is(x.may(v, 50), 6);
            why(x, 50, 0);
        });
        edge("the rules in this order: 6 REST ahead of 7 WAYS", () -> {
            RoadWorks x = street(1, 0, 9);
            x.permit(work(x, SMALL, 1), 49);
            x.pair(0, 1, 9);
            int w = work(x, SMALL, 5);
            is(x.may(w, 50), 6);
            is(x.may(w, 58), 6);
            is(x.may(w, 59), 7);
        });
    }

    private static void who() {
        edge("with all others that are PERMITTED, BEGUN or ENDED: not with ASKED or WITHDRAWN ones", () -> {
            RoadWorks x = street(1, 0, 60);
            int other = work(x, SMALL, 5), w = work(x, SMALL, 5);
            is(x.may(w, 50), 0);
            x.permit(other, 50);
            is(x.may(w, 50), 4);
            is(x.may(w, 55), 6);
            x.withdraw(other);
            is(x.may(w, 50), 0);
            is(x.may(w, 55), 0);
        });
        edge("with a BEGUN one on all its days", () -> {
            RoadWorks x = street(1, 0, 60);
            int other = work(x, GUARANTEE, 5), w = work(x, GUARANTEE, 5), small = work(x, SMALL, 5);
            x.permit(other, 0);
            is(x.may(w, 4), 4);
            is(x.may(w, 5), 0);
            is(x.may(small, 5), 6);
        });
        edge("with all others: where w is PERMITTED now is no matter", () -> {
            RoadWorks x = street(1, 0, 60);
            int w = work(x, SMALL, 5);
            x.permit(w, 50);
            for (int d : new int[] {45, 48, 50, 54, 55, 114}) is(x.may(w, d), 0);
        });
        edge("with others of a greater number, too", () -> {
            RoadWorks x = street(1, 0, 0);
            int w = work(x, SMALL, 5), other = work(x, SMALL, 5);
            x.permit(other, 50);
            is(x.may(w, 50), 4);
        });
        edge("CRASHES keep no rules", () -> {
            RoadWorks x = street(1, 2, 60);
            x.pair(0, 1, 9);
            x.permit(work(x, 0, GUARANTEE, 1, 1, 1, 0), 0);
            x.feast(1, 1);
            x.day(1);
            int crash = work(x, 1, CRASH, 4, 30, 1, 0), again = work(x, 2, CRASH, 4, 30, 1, 0);
            is(x.crash(crash), 0);
            is(x.crash(again), 0);
            is(x.about(again, 0), BEGUN);
            is(x.lanes(0, 1), 8);
        });
    }

    private static void may() {
        edge("promise 7: NONE: no such work, no such day", () -> {
            RoadWorks x = street(1, 0, 0);
            int w = work(x, SMALL, 1);
            for (int no : new int[] {-1, 1, 59, 60, LEAST, MOST}) is(x.may(no, 50), NONE);
            for (int day : new int[] {-1, 400, LEAST, MOST}) is(x.may(w, day), NONE);
            is(x.may(w, 0), 1);
            is(x.may(w, 399), 0);
        });
        edge("promise 7: STATE: not ASKED or PERMITTED", () -> {
            RoadWorks x = street(4, 0, 0);
            int w = work(x, GUARANTEE, 3), gone = work(x, SMALL, 3);
            is(x.may(w, 5), 0);
            x.permit(w, 5);
            is(x.may(w, 50), 0);
            x.day(5);
            is(x.may(w, 50), STATE);
            x.day(5);
            is(x.about(w, 0), ENDED);
            is(x.may(w, 50), STATE);
            x.withdraw(gone);
            is(x.may(gone, 50), STATE);
        });
        edge("promise 7: STATE: a CRASH", () -> {
            RoadWorks x = street(4, 0, 0);
            int crash = work(x, CRASH, 3);
            is(x.may(crash, 50), STATE);
            is(x.may(crash, 0), STATE);
            x.crash(crash);
            is(x.may(crash, 50), STATE);
        });
        edge("promise 7: NONE comes before STATE", () -> {
            RoadWorks x = street(4, 0, 0);
            int crash = work(x, CRASH, 3);
            is(x.may(crash, 400), NONE);
            is(x.may(crash, -1), NONE);
        });
        edge("promise 7: asking changes nothing", () -> {
            RoadWorks x = street(4, 0, 0);
            int w = work(x, SMALL, 3);
            x.may(w, 50);
            x.may(w, 0);
            is(x.about(w, 0), ASKED);
            is(x.about(w, 1), -1);
            x.permit(w, 60);
            x.may(w, 50);
            is(x.about(w, 1), 60);
        });
    }

    private static void why() {
        edge("promise 8: NONE: before any", () -> {
            RoadWorks x = street(4, 0, 0);
            int w = work(x, SMALL, 1);
            is(x.why(0), NONE);
            x.may(w, 50);
            x.first(w, 50, 1);
            x.permit(w, 50);
            x.may(w, 400);
            x.may(9, 50);
            is(x.why(0), NONE);
            is(x.why(1), NONE);
        });
        edge("promise 8: NONE: another what", () -> {
            RoadWorks x = street(4, 0, 0);
            x.may(work(x, SMALL, 1), 2);
            for (int what : new int[] {-1, 2, LEAST, MOST}) is(x.why(what), NONE);
            why(x, 2, 0);
        });
        edge("promise 8: of the latest may(), permit() or first() that found a rule broken", () -> {
            RoadWorks x = streets(4, 1);
            for (int p = 0; p < 4; p++) work(x, 0, SMALL, 1, 2, 1, p);
            x.may(1, 2);
            why(x, 2, 1);
            is(x.permit(2, 1), -11);
            why(x, 1, 2);
            is(x.first(3, 0, 9), 3);
            why(x, 0, 3);
            is(x.may(0, 399), 2);
            why(x, 400, 0);
        });
        edge("promise 8: one that finds none broken, or is refused, is none of these", () -> {
            RoadWorks x = streets(2, 1);
            int w = work(x, 0, SMALL, 1, 2, 1, 1), crash = work(x, CRASH, 1);
            x.may(w, 2);
            is(x.may(w, 50), 0);
            is(x.first(w, 50, 9), 50);
            is(x.permit(w, 50), 0);
            is(x.may(w, 400), NONE);
            is(x.may(2, 0), NONE);
            is(x.may(crash, 0), STATE);
            is(x.first(w, 0, 0), NONE);
            is(x.first(w, 0, 201), NONE);
            is(x.first(crash, 0, 1), STATE);
            is(x.permit(crash, 0), STATE);
            is(x.permit(w, -1), NONE);
            why(x, 2, 1);
        });
        edge("promise 8: of first() the one of the first day", () -> {
            RoadWorks x = street(1, 2, 0);
            int w = work(x, SMALL, 5);
            x.feast(12, 1);
            x.feast(15, 1);
            is(x.first(w, 9, 20), 16);
            why(x, 12, 0);
            is(x.first(w, 9, 3), ABSENT);
            why(x, 12, 0);
            is(x.first(w, 1, 3), 3);
            why(x, 1, 0);
        });
        edge("promise 8: moves and BETTER are none of these", () -> {
            RoadWorks x = streets(2, 1);
            int w = work(x, 0, SMALL, 1, 2, 1, 0), late = work(x, 0, SMALL, 1, 2, 1, 0);
            int crash = work(x, 0, CRASH, 1, 9, 1, 0), other = work(x, 0, SMALL, 1, 2, 1, 1);
            x.permit(w, 5);
            x.permit(late, 50);
            is(x.may(other, 1), 1);
            is(x.crash(crash), 1);
            is(x.over(crash, 1), 1);
            is(x.better(), 1);
            why(x, 1, 1);
        });
        edge("promise 8: of rule 7 the PAIR", () -> {
            RoadWorks x = streets(4, 1);
            for (int i = 0; i < 7; i++) x.pair(5, 6, 9);
            x.piece(708, 1, 0, 5, 0);
            x.pair(7, 8, 9);
            is(x.may(work(x, 0, SMALL, 1, 2, 1, 4), 50), 7);
            why(x, 50, 7);
        });
    }

    private static void first() {
        edge("promise 9: n 1 .. 200", () -> {
            RoadWorks x = street(1, 0, 0);
            int w = work(x, SMALL, 1);
            for (int n : new int[] {0, -1, 201, LEAST, MOST}) is(x.first(w, 50, n), NONE);
            is(x.first(w, 50, 1), 50);
            is(x.first(w, 50, 200), 50);
        });
        edge("promise 9: the first day itself, within 1 day", () -> {
            RoadWorks x = street(1, 0, 0);
            int w = work(x, SMALL, 1);
            is(x.first(w, 2, 1), ABSENT);
            is(x.first(w, 3, 1), 3);
        });
        edge("promise 9: within n days, the told one is the first of them", () -> {
            RoadWorks x = street(1, 0, 0);
            x.permit(work(x, SMALL, 5), 50);
            int w = work(x, SMALL, 1);
            is(x.first(w, 50, 5), ABSENT);
            is(x.first(w, 50, 6), 55);
            is(x.first(w, 54, 1), ABSENT);
            is(x.first(w, 54, 2), 55);
        });
        edge("promise 9: within 200 days", () -> {
            RoadWorks x = street(1, 0, 0);
            for (int i = 0; i < 7; i++) x.permit(work(x, SMALL, 30), 10 + 30 * i);
            int w = work(x, SMALL, 1);
            is(x.first(w, 20, 200), ABSENT);
            is(x.first(w, 21, 200), 220);
            is(x.first(w, 10, 200), ABSENT);
        });
        edge("promise 9: days from 0 to 399", () -> {
            RoadWorks x = street(1, 0, 0);
            int w = work(x, SMALL, 1), guarantee = work(x, GUARANTEE, 1);
            for (int day : new int[] {-1, 400, LEAST, MOST}) is(x.first(w, day, 5), NONE);
            is(x.first(guarantee, 0, 1), 0);
            is(x.first(w, 399, 1), 399);
            is(x.first(w, 399, 200), 399);
        });
        edge("promise 9: the last day of all is found", () -> {
            RoadWorks x = street(1, 0, 0);
            x.permit(work(x, SMALL, 5), 394);
            int w = work(x, SMALL, 1);
            is(x.first(w, 394, 5), ABSENT);
            is(x.first(w, 394, 6), 399);
            is(x.first(w, 398, 200), 399);
        });
        edge("promise 9: -5: there is none up to 399", () -> {
            RoadWorks x = street(1, 0, 0);
            x.permit(work(x, SMALL, 30), 370);
            int w = work(x, SMALL, 1), two = work(x, SMALL, 2);
            is(x.first(w, 370, 200), ABSENT);
            is(x.first(two, 369, 200), ABSENT);
            is(x.first(two, 368, 200), 368);
            is(x.first(w, 369, 200), 369);
        });
        edge("promise 9: NONE, STATE as may()", () -> {
            RoadWorks x = street(1, 0, 0);
            int begun = work(x, GUARANTEE, 1), crash = work(x, CRASH, 1), gone = work(x, SMALL, 1);
            x.permit(begun, 0);
            x.withdraw(gone);
            for (int no : new int[] {-1, 3, 60, LEAST, MOST}) is(x.first(no, 50, 5), NONE);
            for (int w : new int[] {begun, crash, gone}) {
                is(x.first(w, 50, 5), STATE);
                is(x.first(w, 400, 5), NONE);
                is(x.first(w, 50, 0), NONE);
                is(x.first(w, 50, 201), NONE);
            }
            x.day(1);
            is(x.first(begun, 50, 5), STATE);
        });
        edge("promise 9: of a PERMITTED one, without a change of it", () -> {
            RoadWorks x = street(1, 0, 0);
            int w = work(x, SMALL, 5);
            x.permit(w, 50);
            is(x.first(w, 48, 9), 48);
            is(x.about(w, 1), 50);
        });
    }

    private static void permit() {
        edge("promise 10: it is PERMITTED from the day on", () -> {
            RoadWorks x = street(1, 0, 0);
            int w = work(x, SMALL, 5);
            is(x.permit(w, 50), 0);
            is(x.about(w, 0), PERMITTED);
            is(x.about(w, 1), 50);
            is(x.about(w, 2), 54);
        });
        edge("promise 10: a PERMITTED one from another day on", () -> {
            RoadWorks x = street(1, 0, 60);
            int w = work(x, SMALL, 5);
            x.permit(w, 50);
            for (int day : new int[] {52, 48, 3, 395}) {
                is(x.permit(w, day), 0);
                is(x.about(w, 0), PERMITTED);
                is(x.about(w, 1), day);
                is(x.about(w, 2), day + 4);
            }
            is(x.lanes(0, 50), 0);
            is(x.about(w, 10), 0);
        });
        edge("promise 10: RULE: -10 less the number of the first rule that is broken", () -> {
            RoadWorks x = new RoadWorks();
            x.piece(1, 2, 2, 5, 9);
            x.pair(0, 1, 5);
            x.feast(60, 1);
            x.permit(work(x, 1, SMALL, 1, 5, 1, 0), 100);
            int w = work(x, 2, SMALL, 1, 5, 1, 0), two = work(x, 1, SMALL, 2, 5, 1, 0);
            is(x.permit(w, 2), -11);
            is(x.permit(w, 396), -12);
            is(x.permit(w, 56), -13);
            is(x.permit(two, 100), -14);
            is(x.permit(w, 100), -15);
            is(x.permit(w, 105), -16);
            is(x.permit(two, 200), -17);
            is(x.about(w, 0), ASKED);
            is(x.about(two, 0), ASKED);
            is(x.about(w, 1), -1);
        });
        edge("promise 10: what is refused leaves a PERMITTED one where it was", () -> {
            RoadWorks x = street(1, 0, 0);
            int w = work(x, SMALL, 5);
            x.permit(w, 50);
            is(x.permit(w, 2), -11);
            is(x.permit(w, 400), NONE);
            is(x.permit(w, 399), -12);
            is(x.about(w, 1), 50);
            is(x.about(w, 0), PERMITTED);
        });
        edge("point 3: one that is PERMITTED from TODAY on is BEGUN at once", () -> {
            RoadWorks x = street(4, 0, 0);
            int today = work(x, GUARANTEE, 1), tomorrow = work(x, GUARANTEE, 1);
            x.day(7);
            is(x.permit(today, 7), 0);
            is(x.permit(tomorrow, 8), 0);
            is(x.about(today, 0), BEGUN);
            is(x.about(tomorrow, 0), PERMITTED);
            is(x.permit(today, 8), STATE);
            is(x.permit(tomorrow, 7), 0);
            is(x.about(tomorrow, 0), BEGUN);
        });
        edge("promise 10: on the last day of all", () -> {
            RoadWorks x = street(4, 0, 0);
            int w = work(x, GUARANTEE, 1);
            goTo(x, 399);
            is(x.permit(w, 399), 0);
            is(x.about(w, 0), BEGUN);
            is(x.about(w, 2), 399);
        });
        edge("promise 10: NONE, STATE as may()", () -> {
            RoadWorks x = street(4, 0, 0);
            int begun = work(x, GUARANTEE, 1), crash = work(x, CRASH, 1), gone = work(x, SMALL, 1);
            x.permit(begun, 0);
            x.withdraw(gone);
            for (int no : new int[] {-1, 3, 60, LEAST, MOST}) is(x.permit(no, 50), NONE);
            for (int w : new int[] {begun, crash, gone}) {
                is(x.permit(w, 50), STATE);
                is(x.permit(w, 0), STATE);
                for (int day : new int[] {-1, 400, LEAST, MOST}) is(x.permit(w, day), NONE);
            }
            x.day(1);
            is(x.about(begun, 0), ENDED);
            is(x.permit(begun, 50), STATE);
        });
    }
}
