/** Counts answers that are not as due and tells each; the tests share it. */
final class Check {
    private static final int MOST_TOLD = 40;
    private final String name;
    private int looked;
    private int wrong;

    Check(String name) {
        this.name = name;
    }

    void due(String call, long got, long want) {
        looked++;
        if (got != want) {
            tellWrong(call + " answered " + got + ", due is " + want);
        }
    }

    void holds(String what, boolean good) {
        looked++;
        if (!good) {
            tellWrong(what);
        }
    }

    private void tellWrong(String what) {
        wrong++;
        if (wrong <= MOST_TOLD) {
            System.out.println(name + ": " + what);
        }
    }

    int wrong() {
        return wrong;
    }

    /** Ends the program with 1 if something was wrong, or if nothing was looked at. */
    void finish() {
        System.out.println(name + ": " + looked + " looked at, " + wrong + " wrong");
        if (wrong != 0 || looked == 0) {
            System.exit(1);
        }
    }
}
