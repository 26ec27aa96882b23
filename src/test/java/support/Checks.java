/** Compares answers with those that are due, prints those that differ, and counts them. */
final class Checks {
    private int wrong = 0;
    private int made = 0;

    void due(String call, long got, long want) {
        made++;
        if (got != want) {
            wrong++;
            if (wrong <= 50) {
                System.out.println(call + " answered " + got + ", due is " + want);
            }
        }
    }

    int wrong() {
        return wrong;
    }

    /** Ends the test: with exit code 1 if an answer was wrong. */
    void end(String name) {
        System.out.println(name + ": " + made + " answers, " + wrong + " wrong");
        if (wrong != 0 || made == 0) {
            System.exit(1);
        }
    }
}
