/** Compares answers with what is due, and ends a test with exit code 1 if one was wrong. */
final class Due {
    private static final int MOST_PRINTED = 40;

    private final String about;
    private int asked;
    private int wrong;

    Due(String about) {
        this.about = about;
    }

    void is(String call, int got, int want) {
        asked++;
        if (got != want) {
            wrong++;
            if (wrong <= MOST_PRINTED) {
                System.out.println(about + ": " + call + " answered " + got + ", due is " + want);
            }
        }
    }

    /** The answers of latest(0), latest(1), .. in order. */
    void latest(String call, StepBudgets x, int... want) {
        for (int what = 0; what < want.length; what++) {
            is(call + ": latest(" + what + ")", x.latest(what), want[what]);
        }
    }

    /** The three answers of cleaned(k, ..). */
    void cleaned(String call, StepBudgets x, int k, int by, int left, int depth) {
        is(call + ": cleaned(" + k + ", 0)", x.cleaned(k, 0), by);
        is(call + ": cleaned(" + k + ", 1)", x.cleaned(k, 1), left);
        is(call + ": cleaned(" + k + ", 2)", x.cleaned(k, 2), depth);
    }

    void end() {
        System.out.println(about + ": " + asked + " answers, " + wrong + " wrong");
        if (wrong != 0) {
            System.exit(1);
        }
    }
}
