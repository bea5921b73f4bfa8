/** Promise 8: latest. */
public final class Promise08Test {
    private static final int BAD = -1;

    public static void main(String[] args) {
        Due due = new Due("promise 8");
        allZeroAheadOfRun(due);
        wrongWhats(due);
        whatItGave(due);
        kindItThrew(due);
        stepsWithinBudget(due);
        stepsWithinReserve(due);
        framesMade(due);
        cleansMade(due);
        guardsCounted(due);
        whetherOverrun(due);
        mostFrames(due);
        onlyTheLatest(due);
        askedAgain(due);
        due.end();
    }

    /**
     * METHOD 0 divides by 0 under a GUARD, makes a row of 9, CALLs METHOD 1 (which CALLs 3), then loops if
     * its NUMBER 0 is above 0, else gives 6; METHOD 2 cleans up behind it and throws under a GUARD of its own.
     */
    private static StepBudgets busy() {
        StepBudgets x = new StepBudgets();
        Acts.of(x, 0).reckon(4, 1, 1, 1).set(2, 9).make(0, 1, 2).call(3, 1, 0, 2).goIf(0, 4).give(3);
        x.guard(0, 0, 1, 1, 1);
        x.clean(0, 3, 6, 2);
        Acts.of(x, 1).set(1, 6).call(2, 3, 0, 1).give(1);
        Acts.of(x, 2).raise(8);
        x.guard(2, 0, 1, 0, 1);
        Acts.of(x, 4).raise(9);
        return x;
    }

    private static void allZeroAheadOfRun(Due due) {
        StepBudgets x = busy();
        due.latest("ahead of a run", x, 0, 0, 0, 0, 0, 0, 0, 0, 0);
        x.run(0, 0, 501);
        due.latest("behind a run that was refused", x, 0, 0, 0, 0, 0, 0, 0, 0, 0);
    }

    private static void wrongWhats(Due due) {
        StepBudgets x = busy();
        for (int i = 0; i < 2; i++) {
            for (int what : new int[] {-1, 9, 10, Integer.MIN_VALUE, Integer.MAX_VALUE}) {
                due.is("latest(" + what + ")", x.latest(what), BAD);
            }
            x.run(0, 1, 20);
        }
    }

    /** latest(what) of a run that gave, was STOPPED, was STOPPED with a RESERVE of 1, threw. */
    private static void each(Due due, int what, int gave, int stopped, int overrun, int threw) {
        StepBudgets x = busy();
        String call = "latest(" + what + ")";
        due.is("it gave", x.run(0, 0, 500), 0);
        due.is(call + " of a run that gave", x.latest(what), gave);
        due.is("it was STOPPED", x.run(0, 1, 20), 1);
        due.is(call + " of a run that was STOPPED", x.latest(what), stopped);
        x.reserve(1);
        due.is("it was STOPPED and overran", x.run(0, 1, 20), 1);
        due.is(call + " of a run that overran", x.latest(what), overrun);
        due.is("it threw", x.run(4, 0, 20), 2);
        due.is(call + " of a run that threw", x.latest(what), threw);
    }

    private static void whatItGave(Due due) {
        each(due, 0, 6, 0, 0, 0);
    }

    private static void kindItThrew(Due due) {
        each(due, 1, 0, 0, 0, 9);
    }

    /** FRAME, GUARD, NEW of 9 (2), two FRAMES; on giving a CLEAN's FRAME and its GUARD. */
    private static void stepsWithinBudget(Due due) {
        each(due, 2, 8, 20, 20, 1);
    }

    private static void stepsWithinReserve(Due due) {
        each(due, 3, 0, 2, 1, 0);
    }

    private static void framesMade(Due due) {
        each(due, 4, 4, 4, 4, 1);
    }

    private static void cleansMade(Due due) {
        each(due, 5, 1, 1, 1, 0);
        // The CLEAN whose FRAME had no STEP of the RESERVE was not made.
        StepBudgets x = busy();
        x.reserve(0);
        x.run(0, 1, 20);
        due.is("latest(5) without a RESERVE", x.latest(5), 0);
        due.is("latest(4) without a RESERVE", x.latest(4), 3);
    }

    private static void guardsCounted(Due due) {
        each(due, 6, 2, 2, 1, 0);
    }

    private static void whetherOverrun(Due due) {
        each(due, 7, 0, 0, 1, 0);
    }

    private static void mostFrames(Due due) {
        each(due, 8, 3, 3, 3, 1);
    }

    private static void onlyTheLatest(Due due) {
        StepBudgets x = busy();
        x.reserve(1);
        x.run(0, 1, 20);
        x.run(5, 0, 0);
        due.latest("a run without a STEP", x, 0, 0, 0, 0, 0, 0, 0, 0, 0);
    }

    private static void askedAgain(Due due) {
        StepBudgets x = busy();
        x.run(0, 0, 500);
        for (int i = 0; i < 3; i++) {
            due.latest("asked again", x, 6, 0, 8, 0, 4, 1, 2, 0, 3);
        }
    }
}
