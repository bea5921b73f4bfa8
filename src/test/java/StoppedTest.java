/** Terms: what is run when a run is STOPPED, and how it ends with the RESERVE. */
public final class StoppedTest {
    public static void main(String[] args) {
        Due due = new Due("stopped");
        innermostFirst(due);
        noGuardIsAsked(due);
        whatTheyThrowIsNothing(due);
        stoppedInLeaving(due);
        overruns(due);
        deepFrames(due);
        whatTheyAreHanded(due);
        endPassesGuards(due);
        due.end();
    }

    private static void innermostFirst(Due due) {
        StepBudgets x = new StepBudgets();
        Acts.of(x, 0).call(1, 1, 0, 0);
        x.clean(0, 0, 1, 4);
        x.clean(0, 0, 1, 5);
        x.clean(0, 1, 2, 7);
        Acts.of(x, 1).set(0, 3).call(1, 2, 0, 0);
        x.clean(1, 1, 2, 6);
        Acts.of(x, 2).go(0);
        x.clean(2, 0, 1, 4);
        due.is("innermost first", x.run(0, 0, 7), 1);
        due.latest("innermost first", x, 0, 0, 7, 4, 7, 4, 0, 0, 4);
        due.cleaned("innermost first", x, 0, 4, 2, 4);
        due.cleaned("innermost first", x, 1, 6, 1, 3);
        due.cleaned("innermost first", x, 2, 5, 0, 2);
        due.cleaned("innermost first", x, 3, 4, 0, 2);
    }

    private static void noGuardIsAsked(Due due) {
        StepBudgets x = new StepBudgets();
        Acts.of(x, 0).call(1, 1, 0, 0).give(1);
        x.guard(0, 0, 1, 0, 1);
        Acts.of(x, 1).go(0);
        x.guard(1, 0, 1, 0, 1);
        x.clean(1, 0, 1, 2);
        Acts.of(x, 2).raise(9);
        due.is("no GUARD", x.run(0, 0, 9), 1);
        due.latest("no GUARD", x, 0, 0, 9, 1, 3, 1, 0, 0, 3);
    }

    private static void whatTheyThrowIsNothing(Due due) {
        StepBudgets x = new StepBudgets();
        Acts.of(x, 0).go(0);
        for (int by = 1; by <= 3; by++) {
            x.clean(0, 0, 1, by);
            Acts.of(x, by).raise(8);
        }
        // The CLEAN by METHOD 2 has a GUARD and CLEANS of its own; one of those throws out of it.
        x.guard(2, 0, 1, 8, 1);
        x.clean(2, 0, 1, 5);
        x.clean(2, 0, 1, 4);
        Acts.of(x, 4).raise(9);
        due.is("thrown for nothing", x.run(0, 0, 4), 1);
        due.latest("thrown for nothing", x, 0, 0, 4, 5, 5, 4, 1, 0, 3);
        due.cleaned("thrown for nothing", x, 0, 3, 0, 2);
        due.cleaned("thrown for nothing", x, 1, 2, 0, 2);
        due.cleaned("thrown for nothing", x, 2, 4, 2, 3);
        due.cleaned("thrown for nothing", x, 3, 1, 0, 2);
    }

    private static void stoppedInLeaving(Due due) {
        // ACT 0 is LEFT for ACT 1. CLEAN 0 holds both; 1, 2, 3 hold ACT 0 alone.
        StepBudgets x = new StepBudgets();
        Acts.of(x, 0).set(1, 1).give(1);
        for (int by = 1; by <= 4; by++) {
            x.clean(0, 0, by == 1 ? 2 : 1, by);
        }
        Acts.of(x, 3).go(0);
        x.clean(3, 0, 1, 5);
        // By METHOD 4, then 3, which does not end: its own CLEAN, then 2 and 1, but not 3 again.
        due.is("in LEAVING", x.run(0, 0, 20), 1);
        due.latest("in LEAVING", x, 0, 0, 20, 3, 6, 5, 0, 0, 3);
        due.cleaned("in LEAVING", x, 0, 4, 0, 2);
        due.cleaned("in LEAVING", x, 1, 3, 0, 2);
        due.cleaned("in LEAVING", x, 2, 5, 3, 3);
        due.cleaned("in LEAVING", x, 3, 2, 0, 2);
        due.cleaned("in LEAVING", x, 4, 1, 0, 2);
        // STOPPED at the STEP of METHOD 3's FRAME: that was not made, and METHOD 3 is run with the RESERVE.
        due.is("ahead of its FRAME", x.run(0, 0, 2), 1);
        due.latest("ahead of its FRAME", x, 0, 0, 2, 10, 3, 2, 0, 1, 2);
        due.cleaned("ahead of its FRAME", x, 1, 3, 0, 2);
        x.clear(3);
        due.is("ahead of its FRAME", x.run(0, 0, 2), 1);
        due.latest("ahead of its FRAME", x, 0, 0, 2, 3, 5, 4, 0, 0, 2);
        due.cleaned("ahead of its FRAME", x, 3, 1, 0, 2);
        // An earlier LEAVING of the same ACT does not count: METHOD 1 is run again.
        StepBudgets y = new StepBudgets();
        Acts.of(y, 0).set(1, 1).go(0);
        y.clean(0, 0, 1, 1);
        due.is("an earlier LEAVING", y.run(0, 0, 5), 1);
        // FRAME, CLEAN, GO, CLEAN, GO, and the next CLEAN has no STEP.
        due.latest("an earlier LEAVING", y, 0, 0, 5, 1, 4, 3, 0, 0, 2);
    }

    private static void overruns(Due due) {
        StepBudgets x = new StepBudgets();
        Acts.of(x, 0).call(1, 1, 0, 0);
        x.clean(0, 0, 1, 2);
        Acts.of(x, 1).go(0);
        x.clean(1, 0, 1, 2);
        x.clean(1, 0, 1, 3);
        Acts.of(x, 3).set(1, 40).make(0, 0, 1);
        x.clean(3, 0, 2, 2);
        // METHOD 3: its FRAME, NEW of 40 (6 STEPS), a CLEAN; then METHOD 2 twice.
        int[][] rows = {
            // RESERVE, STEPS of it, CLEANS, overrun
            {0, 0, 0, 1}, {1, 1, 1, 1}, {6, 1, 1, 1}, {7, 7, 1, 1}, {8, 8, 2, 1}, {9, 9, 3, 1}, {10, 10, 4, 0}, {11, 10, 4, 0},
        };
        for (int[] r : rows) {
            x.reserve(r[0]);
            due.is("RESERVE " + r[0], x.run(0, 0, 9), 1);
            due.latest("RESERVE " + r[0], x, 0, 0, 9, r[1], 2 + r[2], r[2], 0, r[3]);
        }
        // STOPPED with nothing to clean up, RESERVE 0 is not overrun.
        StepBudgets y = new StepBudgets();
        Acts.of(y, 0).go(0);
        y.reserve(0);
        due.is("nothing to clean up", y.run(0, 0, 9), 1);
        due.latest("nothing to clean up", y, 0, 0, 9, 0, 1, 0, 0, 0, 1);
        // A GUARD within the RESERVE needs a STEP, too.
        StepBudgets z = new StepBudgets();
        Acts.of(z, 0).go(0);
        z.clean(0, 0, 1, 1);
        Acts.of(z, 1).raise(8);
        z.guard(1, 0, 1, 0, 1);
        z.reserve(1);
        due.is("a GUARD above the RESERVE", z.run(0, 0, 9), 1);
        due.latest("a GUARD above the RESERVE", z, 0, 0, 9, 1, 2, 1, 0, 1, 2);
    }

    private static void deepFrames(Due due) {
        // FRAME 12 loops: its CLEANS are too deep, which is nothing; those of the 11 others are not.
        StepBudgets x = new StepBudgets();
        Acts.of(x, 0).goIf(0, 2).go(1).set(1, -1).reckon(1, 0, 0, 1).call(2, 0, 0, 0);
        x.clean(0, 0, 5, 1);
        x.reserve(100);
        due.is("deep FRAMES", x.run(0, 11, 50), 1);
        due.latest("deep FRAMES", x, 0, 0, 50, 12, 23, 11, 0, 0, 12);
        for (int k = 0; k < 11; k++) {
            due.cleaned("deep FRAMES", x, k, 1, 0, 12 - k);
        }
    }

    private static void whatTheyAreHanded(Due due) {
        // METHOD 1 PUTs NUMBER 0 into ROW 0, METHOD 2 GETs it out and goes round as often.
        StepBudgets x = new StepBudgets();
        Acts.of(x, 0).set(1, 1).make(0, 1, 1).reckon(1, 0, 0, 1).go(3);
        x.clean(0, 3, 4, 2);
        x.clean(0, 3, 4, 1);
        Acts.of(x, 1).put(0, 1, 1, 0);
        Acts.of(x, 2).set(0, 0).get(2, 0, 1, 1).set(1, -1).reckon(1, 2, 2, 1).goIf(2, 3);
        due.is("NUMBER 0 and ROW 0", x.run(0, 5, 20), 1);
        // Two FRAMES, and 6 times round.
        due.latest("NUMBER 0 and ROW 0", x, 0, 0, 20, 2 + 5, 3, 2, 0, 0, 2);
    }

    private static void endPassesGuards(Due due) {
        // METHOD 1 cleans up and CALLs METHOD 2, which loops: no GUARD and no CLEAN behind the RESERVE.
        StepBudgets x = new StepBudgets();
        Acts.of(x, 0).go(0);
        x.guard(0, 0, 1, 0, 1);
        x.clean(0, 0, 1, 3);
        x.clean(0, 0, 1, 1);
        Acts.of(x, 1).call(1, 2, 0, 0);
        x.guard(1, 0, 1, 0, 1);
        x.clean(1, 0, 1, 3);
        Acts.of(x, 2).go(0);
        x.guard(2, 0, 1, 0, 1);
        x.clean(2, 0, 1, 3);
        due.is("the end of the RESERVE", x.run(0, 0, 4), 1);
        due.latest("the end of the RESERVE", x, 0, 0, 4, 10, 3, 1, 0, 1, 3);
    }
}
