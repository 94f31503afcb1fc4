/** Counts the answers of a test that are not as due, and tells each of them. */
final class Check {
    private final String test;
    private int wrong = 0;
    private int seen = 0;

    Check(String test) {
        this.test = test;
    }

    void due(String what, long want, long got) {
        seen++;
        if (want != got) {
            wrong++;
            System.out.println(test + ": " + what + " answered " + got + ", due is " + want);
        }
    }

    void same(String what, String want, String got) {
        seen++;
        if (!want.equals(got)) {
            wrong++;
            System.out.println(test + ": " + what + " answered '" + got + "', due is '" + want + "'");
        }
    }

    void holds(String what, boolean held) {
        due(what, 1, held ? 1 : 0);
    }

    boolean failed() {
        return wrong > 0;
    }

    /** Ends the test, with exit code 1 if an answer was wrong. */
    void ends() {
        System.out.println(test + ": " + seen + " answers, " + wrong + " wrong");
        if (wrong > 0) {
            System.exit(1);
        }
    }
}
