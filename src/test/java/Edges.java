/** What the tests of the edges share: one test a sentence, and works and towns told in few words. */
abstract class Edges {
    static final int SMALL = 0, GREAT = 1, CRASH = 2, GUARANTEE = 3;
    static final int ASKED = 0, PERMITTED = 1, BEGUN = 2, ENDED = 3, WITHDRAWN = 4;
    static final int NONE = -1, FULL = -2, STATE = -3, ABSENT = -5;
    static final int LEAST = Integer.MIN_VALUE, MOST = Integer.MAX_VALUE;
    private static String sentence = "";
    private static int edges, answers, wrong;

    /** One sentence of the document, and the answers that hold only as long as it does. */
    static void edge(String words, Runnable test) {
        sentence = words;
        edges++;
        int before = answers;
        try {
            test.run();
        } catch (RuntimeException e) {
            wrong("threw " + e);
        }
        if (answers == before) wrong("asked nothing");
    }

    static void is(int got, int want) {
        answers++;
        if (got != want) wrong(got + " was answered, " + want + " is due");
    }

    static void why(RoadWorks x, int day, int place) {
        is(x.why(0), day);
        is(x.why(1), place);
    }

    /** The test's file says how it ended: with 1 if an answer was not due. */
    static void end(String test) {
        System.out.println(test + ": " + edges + " edges, " + answers + " answers, " + wrong + " of them wrong");
        System.exit(wrong == 0 && edges > 0 ? 0 : 1);
    }

    private static void wrong(String what) {
        wrong++;
        if (wrong > 30) return;
        String line = "";
        for (StackTraceElement call : new Throwable().getStackTrace()) {
            if (call.getFileName() != null && call.getFileName().endsWith("EdgesTest.java")) {
                line = " (" + call.getFileName() + ":" + call.getLineNumber() + ")";
                break;
            }
        }
        System.out.println(sentence + ": " + what + line);
    }

    static int a(int house, int sort, int lanes, int days) {
        return 10000 * house + 1000 * sort + 100 * lanes + days;
    }

    static int b(int depth, int wanted) {
        return 1000 * depth + wanted;
    }

    /** A work on some pieces, as they are told: its number. */
    static int work(RoadWorks x, int house, int sort, int lanes, int days, int depth, int... pieces) {
        int w = x.work(a(house, sort, lanes, days), b(depth, 0), pieces[0]);
        for (int i = 1; i < pieces.length; i++) x.more(w, pieces[i]);
        return w;
    }

    /** A work of house 0, one lane, depth 1 on piece 0. */
    static int work(RoadWorks x, int sort, int days) {
        return work(x, 0, sort, 1, days, 1, 0);
    }

    /** A town of one street from crossing 0 to 1: piece 0. */
    static RoadWorks street(int lanes, int rank, int rest) {
        RoadWorks x = new RoadWorks();
        x.piece(1, lanes, rank, 5, rest);
        return x;
    }

    /** A town of some streets from crossing 0 to 1, all alike, of rank 0, 5 minutes and no rest. */
    static RoadWorks streets(int number, int lanes) {
        RoadWorks x = new RoadWorks();
        for (int i = 0; i < number; i++) x.piece(1, lanes, 0, 5, 0);
        return x;
    }

    static void goTo(RoadWorks x, int day) {
        while (x.count(3) < day) x.day(Math.min(100, day - x.count(3)));
    }
}
