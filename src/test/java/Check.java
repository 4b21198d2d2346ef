/** Counts the answers of one test class and prints those that are not due. */
final class Check {
    private final String test;
    private String part = "";
    private int asked;
    private int wrong;

    Check(String test) {
        this.test = test;
    }

    void part(String name) {
        part = name;
    }

    void due(String call, long got, long want) {
        asked++;
        if (got == want) return;
        wrong++;
        if (wrong <= 30) System.out.println(test + ", " + part + ": " + call + " answered " + got + ", due is " + want);
    }

    void holds(String what, boolean so) {
        due(what, so ? 1 : 0, 1);
    }

    int wrong() {
        return wrong;
    }

    /** Ends the program: with 1 if an answer was not due, or nothing was asked at all. */
    void end() {
        System.out.println(test + ": " + asked + " answers, " + wrong + " of them wrong");
        System.exit(wrong == 0 && asked > 0 ? 0 : 1);
    }
}
