/** Compares answers with those that are due; prints those that are not. */
final class Due {
    private final String test;
    private int checked;
    private int wrong;

    Due(String test) {
        this.test = test;
    }

    void is(String call, double got, double want) {
        checked++;
        if (got != want) {
            wrong++;
            System.out.println(test + ": " + call + " answered " + got + ", due is " + want);
        }
    }

    void holds(String what, boolean held) {
        checked++;
        if (!held) {
            wrong++;
            System.out.println(test + ": " + what + " does not hold");
        }
    }

    /** To be called last, as it ends the program if an answer was wrong. */
    void end() {
        System.out.println(test + ": " + (checked - wrong) + " of " + checked + " answers are as due");
        if (wrong != 0) {
            System.exit(1);
        }
    }
}
