import java.util.ArrayList;
import java.util.List;
import java.util.function.ToIntFunction;

/** Terms, point 5: of each call all that it refuses, in the order that it names; what is refused changes nothing. */
public final class RefusalEdgesTest extends Edges {
    private static final int[] NO_WORK = {-1, 11, 59, 60, LEAST, MOST};
    private static final int[] NO_DAY = {-1, 400, 1000, LEAST, MOST};
    private static final int IS_ASKED = 0, IS_PERMITTED = 1, IS_BEGUN = 2, IS_ENDED = 3, IS_WITHDRAWN = 4, IS_CRASH = 5;
    private static final int JOINED_ONE = 6, JOINED_OTHER = 7, BEGUN_CRASH = 8, GUARANTEED = 9, HAS_FOUR = 10;

    private RefusalEdgesTest() { }

    public static void main(String[] args) {
        edge("the town of these tests is as its names say", () -> {
            RoadWorks x = town();
            int[] states = {ASKED, PERMITTED, BEGUN, ENDED, WITHDRAWN, ASKED, PERMITTED, ASKED, BEGUN, PERMITTED, ASKED};
            for (int w = 0; w < states.length; w++) is(x.about(w, 0), states[w]);
            is(x.about(JOINED_ONE, 8), JOINED_OTHER);
            is(x.about(HAS_FOUR, 9), 4);
            why(x, 34, 0);
        });
        net();
        works();
        rules();
        changes();
        questions();
        noChange();
        end("RefusalEdgesTest");
    }

    /** A town with a work in each state and of each sort, TODAY 33, after a rule that was found broken. */
    private static RoadWorks town() {
        RoadWorks x = new RoadWorks();
        for (int i = 0; i < 4; i++) x.piece(100 * i + i + 1, 4, i % 3, 5 + i, 2 * i);
        x.piece(4, 1, 0, 30, 1);
        x.pair(0, 4, 40);
        x.pair(1, 3, 9);
        for (int day : new int[] {0, 50, 399}) x.feast(day, 1);
        int[] sorts = {SMALL, SMALL, GREAT, GUARANTEE, SMALL, CRASH, GREAT, GREAT, CRASH, GUARANTEE, SMALL};
        for (int i = 0; i < sorts.length; i++) x.work(a(i % 10, sorts[i], 1, 3), b(1 + i % 9, 10), i == 10 ? 0 : i % 4);
        for (int p = 1; p < 4; p++) x.more(HAS_FOUR, p);
        x.more(JOINED_ONE, 3);
        x.more(JOINED_OTHER, 2);
        x.join(JOINED_ONE, JOINED_OTHER);
        x.permit(IS_BEGUN, 32);
        x.permit(IS_ENDED, 4);
        x.permit(JOINED_ONE, 60);
        x.day(33);
        x.permit(IS_PERMITTED, 40);
        x.permit(GUARANTEED, 45);
        x.withdraw(IS_WITHDRAWN);
        x.crash(BEGUN_CRASH);
        x.over(BEGUN_CRASH, 2);
        x.may(IS_ASKED, 34);
        return x;
    }

    /** What can be asked of such a town in some 300 calls: all but what a later call would tell. */
    private static List<Integer> seen(RoadWorks x) {
        List<Integer> seen = new ArrayList<>();
        for (int what = 0; what <= 1; what++) seen.add(x.why(what));
        for (int what = 0; what <= 8; what++) seen.add(x.count(what));
        for (int w = 0; w <= 11; w++) for (int what = 0; what <= 10; what++) seen.add(x.about(w, what));
        for (int p = 0; p < 5; p++) {
            for (int day : new int[] {0, 4, 6, 32, 33, 35, 37, 38, 40, 42, 45, 60, 62, 399}) seen.add(x.lanes(p, day));
            for (int i = 0; i < 3; i++) seen.add(x.book(p, i));
        }
        for (int day : new int[] {0, 33, 40, 60}) {
            seen.add(x.shut(day));
            for (int i = 0; i < 2; i++) seen.add(x.way(i, day));
        }
        seen.add(x.price());
        for (int day : new int[] {0, 1, 33, 50, 398, 399}) {
            int was = x.feast(day, 1);
            seen.add(was);
            x.feast(day, was);
        }
        return seen;
    }

    /** Calls that are refused with one answer, and the same town without them. */
    private static void refused(int answer, List<ToIntFunction<RoadWorks>> calls) {
        RoadWorks x = town();
        for (ToIntFunction<RoadWorks> call : calls) is(call.applyAsInt(x), answer);
        List<Integer> got = seen(x), due = seen(town());
        is(got.size(), due.size());
        for (int i = 0; i < got.size(); i++) is(got.get(i), due.get(i));
    }

    private static void edgeOf(String words, int answer, List<ToIntFunction<RoadWorks>> calls) {
        edge(words, () -> refused(answer, calls));
    }

    private static List<ToIntFunction<RoadWorks>> calls() {
        return new ArrayList<>();
    }

    private static void net() {
        List<ToIntFunction<RoadWorks>> pieces = calls(), pairs = calls(), feasts = calls();
        for (int ends : new int[] {0, 101, 20, 2000, -1, LEAST, MOST}) pieces.add(x -> x.piece(ends, 1, 1, 1, 1));
        for (int no : new int[] {-1, 61, LEAST, MOST}) {
            pieces.add(x -> x.piece(1, no, 1, 1, 1));
            pieces.add(x -> x.piece(1, 1, no, 1, 1));
            pieces.add(x -> x.piece(1, 1, 1, no, 1));
            pieces.add(x -> x.piece(1, 1, 1, 1, no));
            pairs.add(x -> x.pair(no, 1, 9));
            pairs.add(x -> x.pair(0, no, 9));
            feasts.add(x -> x.feast(50, no));
            feasts.add(x -> x.feast(1, no));
        }
        for (int limit : new int[] {0, 201}) pairs.add(x -> x.pair(0, 1, limit));
        pairs.add(x -> x.pair(3, 3, 9));
        for (int day : NO_DAY) feasts.add(x -> x.feast(day, 1));
        edgeOf("point 5: piece() refused with NONE changes nothing", NONE, pieces);
        edgeOf("point 5: pair() refused with NONE changes nothing", NONE, pairs);
        edgeOf("point 5: feast() refused with NONE changes nothing", NONE, feasts);
        edge("point 5: piece(), pair(), work() refused with FULL change nothing", () -> {
            RoadWorks x = streets(40, 4);
            for (int i = 0; i < 8; i++) x.pair(0, 1, 5);
            for (int i = 0; i < 60; i++) x.work(101, 1000, 0);
            is(x.piece(203, 4, 0, 5, 0), FULL);
            is(x.pair(2, 3, 5), FULL);
            is(x.work(202, 2000, 1), FULL);
            int[] due = {40, 8, 60, 0, 60, 0, 0, 0, 0};
            for (int what = 0; what <= 8; what++) is(x.count(what), due[what]);
            for (int i = 0; i < 8; i++) is(x.way(i, 0), 5);
            is(x.about(59, 4), 25);
            is(x.about(0, 4), 25);
        });
    }

    private static void works() {
        List<ToIntFunction<RoadWorks>> works = calls(), more = calls(), moreState = calls();
        for (int no : new int[] {-1, 100, 131, 501, 4101, 100101, LEAST, MOST}) works.add(x -> x.work(no, 1000, 0));
        for (int no : new int[] {-1, 0, 999, 1400, 10000, LEAST, MOST}) works.add(x -> x.work(101, no, 0));
        for (int no : new int[] {-1, 5, 40, LEAST, MOST}) works.add(x -> x.work(101, 1000, no));
        for (int no : NO_WORK) more.add(x -> x.more(no, 0));
        for (int no : new int[] {-1, 5, 40, LEAST, MOST}) more.add(x -> x.more(IS_ASKED, no));
        more.add(x -> x.more(IS_ASKED, 0));
        more.add(x -> x.more(IS_BEGUN, 2));
        more.add(x -> x.more(JOINED_ONE, 2));
        more.add(x -> x.more(HAS_FOUR, 3));
        for (int w : new int[] {IS_PERMITTED, IS_BEGUN, IS_ENDED, IS_WITHDRAWN, JOINED_ONE, JOINED_OTHER, BEGUN_CRASH}) {
            moreState.add(x -> x.more(w, 4));
        }
        edgeOf("point 5: work() refused with NONE changes nothing", NONE, works);
        edgeOf("point 5: more() refused with NONE changes nothing", NONE, more);
        edgeOf("point 5: more() refused with STATE changes nothing", STATE, moreState);
        edgeOf("point 5: more() refused with FULL changes nothing", FULL, List.of(x -> x.more(HAS_FOUR, 4)));
    }

    private static void rules() {
        List<ToIntFunction<RoadWorks>> none = calls(), state = calls();
        for (int no : NO_WORK) {
            none.add(x -> x.may(no, 70));
            none.add(x -> x.first(no, 70, 9));
            none.add(x -> x.permit(no, 70));
        }
        for (int day : NO_DAY) {
            for (int w : new int[] {IS_ASKED, IS_PERMITTED, IS_BEGUN, IS_CRASH}) {
                none.add(x -> x.may(w, day));
                none.add(x -> x.first(w, day, 9));
                none.add(x -> x.permit(w, day));
            }
        }
        for (int n : new int[] {0, -1, 201, LEAST, MOST}) {
            for (int w : new int[] {IS_ASKED, IS_ENDED, IS_CRASH}) none.add(x -> x.first(w, 70, n));
        }
        for (int w : new int[] {IS_BEGUN, IS_ENDED, IS_WITHDRAWN, IS_CRASH, BEGUN_CRASH}) {
            state.add(x -> x.may(w, 70));
            state.add(x -> x.first(w, 70, 9));
            state.add(x -> x.permit(w, 70));
        }
        edgeOf("point 5: may(), first(), permit() refused with NONE change nothing", NONE, none);
        edgeOf("point 5: may(), first(), permit() refused with STATE change nothing", STATE, state);
        edge("point 5: permit() refused with RULE changes nothing but why()", () -> {
            RoadWorks x = town();
            is(x.permit(IS_PERMITTED, 35), -11);
            is(x.permit(IS_PERMITTED, 398), -12);
            is(x.permit(HAS_FOUR, 49), -13);
            why(x, 50, 2);
            x.may(IS_ASKED, 34);
            List<Integer> got = seen(x), due = seen(town());
            for (int i = 0; i < got.size(); i++) is(got.get(i), due.get(i));
        });
    }

    private static void changes() {
        List<ToIntFunction<RoadWorks>> none = calls(), state = calls();
        for (int no : NO_WORK) {
            none.add(x -> x.withdraw(no));
            none.add(x -> x.over(no, 3));
            none.add(x -> x.crash(no));
            none.add(x -> x.join(no, IS_ASKED));
            none.add(x -> x.join(IS_ASKED, no));
        }
        for (int n : new int[] {0, -1, 31, LEAST, MOST}) {
            none.add(x -> x.over(IS_BEGUN, n));
            none.add(x -> x.over(IS_ASKED, n));
        }
        for (int n : new int[] {0, -1, 101, LEAST, MOST}) none.add(x -> x.day(n));
        for (int w : new int[] {IS_ASKED, IS_BEGUN, JOINED_ONE}) none.add(x -> x.join(w, w));
        for (int w = 0; w <= HAS_FOUR; w++) {
            int v = w;
            if (w == IS_BEGUN || w == IS_ENDED || w == IS_WITHDRAWN || w == BEGUN_CRASH) state.add(x -> x.withdraw(v));
            if (w != IS_BEGUN && w != BEGUN_CRASH) state.add(x -> x.over(v, 3));
            if (w != IS_CRASH) state.add(x -> x.crash(v));
            if (w != IS_ASKED) state.add(x -> x.join(IS_ASKED, v));
            if (w != JOINED_ONE) state.add(x -> x.join(JOINED_ONE, v));
        }
        edgeOf("point 5: withdraw(), day(), over(), crash(), join() refused with NONE change nothing", NONE, none);
        edgeOf("point 5: withdraw(), over(), crash(), join() refused with STATE change nothing", STATE, state);
        edge("point 5: day() beyond 399 changes nothing", () -> {
            RoadWorks x = street(4, 0, 0);
            int w = work(x, SMALL, 1), last = work(x, SMALL, 30);
            x.permit(w, 350);
            x.permit(last, 370);
            goTo(x, 349);
            for (int n : new int[] {51, 100}) is(x.day(n), NONE);
            is(x.count(3), 349);
            is(x.about(w, 0), PERMITTED);
            is(x.about(last, 0), PERMITTED);
            is(x.day(50), 399);
            is(x.about(w, 0), ENDED);
            is(x.about(last, 0), BEGUN);
        });
    }

    private static void questions() {
        List<ToIntFunction<RoadWorks>> none = calls(), absent = calls();
        for (int no : new int[] {-1, 5, 40, LEAST, MOST}) {
            none.add(x -> x.lanes(no, 33));
            none.add(x -> x.book(no, 0));
        }
        for (int no : new int[] {-1, 2, 8, LEAST, MOST}) {
            none.add(x -> x.way(no, 33));
            none.add(x -> x.why(no));
        }
        for (int day : NO_DAY) {
            none.add(x -> x.lanes(0, day));
            none.add(x -> x.way(0, day));
            none.add(x -> x.shut(day));
        }
        for (int i : new int[] {-1, 2, 60, LEAST, MOST}) none.add(x -> x.book(0, i));
        for (int what : new int[] {-1, 9, LEAST, MOST}) none.add(x -> x.count(what));
        for (int no : NO_WORK) absent.add(x -> x.about(no, 0));
        for (int what : new int[] {-1, 11, LEAST, MOST}) absent.add(x -> x.about(IS_BEGUN, what));
        absent.add(x -> x.first(IS_ASKED, 34, 2));
        edgeOf("point 5: why(), lanes(), way(), shut(), book(), count() refused with NONE change nothing", NONE, none);
        edgeOf("promises 9 and 16: about() and first() that answer -5 change nothing but why()", ABSENT, absent);
    }

    private static void noChange() {
        edge("the questions change nothing", () -> {
            RoadWorks x = town();
            for (int i = 0; i < 20; i++) {
                x.lanes(i % 5, 33 + i);
                x.way(i % 2, 33 + i);
                x.shut(33 + i);
                x.book(i % 5, i % 3);
                x.about(i % 11, i % 11);
                x.count(i % 9);
                x.price();
                x.first(IS_PERMITTED, 36, 1 + i);
                x.may(JOINED_OTHER, 80 + i);
            }
            List<Integer> got = seen(x), due = seen(town());
            for (int i = 0; i < got.size(); i++) is(got.get(i), due.get(i));
        });
        edge("the same calls always give the same answers", () -> {
            List<Integer> one = seen(town()), other = seen(town());
            for (int i = 0; i < one.size(); i++) is(one.get(i), other.get(i));
        });
    }
}
