/** The 25th THROW of KINDS 1 to 6 that begins in a run, and each behind it, is as a STEP above the BUDGET. */
public final class ThrowsTest {
    private static final int THROWING = 7;

    public static void main(String[] args) {
        Due due = new Due("throws");
        eachKind(due);
        kindsTogether(due);
        otherKindsBeside(due);
        eachRunBeginsAnew(due);
        notThoseOutOfCalls(due);
        notThoseOutOfCleans(due);
        stoppedWhereItWouldBeThrown(due);
        stepOfNewComesAhead(due);
        asStepAboveReserve(due);
        due.end();
    }

    /** METHOD 7 throws one KIND. */
    private static void throwing(StepBudgets x, int kind) {
        x.clear(THROWING);
        Acts acts = Acts.of(x, THROWING);
        switch (kind) {
            case 1: acts.reckon(5, 1, 1, 1); break;
            case 2: acts.size(1, 1); break;
            case 3: acts.make(1, 0, 1).get(1, 1, 1, 1); break;
            case 4: acts.make(1, 0, 1).make(2, 1, 1).copy(1, 2, 1); break;
            case 5: acts.make(1, 0, 1).put(1, 0, 1, 1); break;
            case 6: acts.set(1, -1).make(1, 0, 1); break;
            case 7: acts.set(1, 65).make(1, 0, 1); break;
            default: acts.raise(kind); break;
        }
    }

    /** METHOD 0 CALLs another NUMBER 0 times, under a GUARD, and gives the KIND that came last. */
    private static StepBudgets caller(int method) {
        StepBudgets x = new StepBudgets();
        Acts.of(x, 0).set(1, -1).call(2, method, 0, 0).reckon(1, 0, 0, 1).goIf(0, 1).give(5);
        x.guard(0, 1, 2, 0, 2);
        return x;
    }

    private static void eachKind(Due due) {
        for (int kind = 1; kind <= 9; kind++) {
            StepBudgets x = caller(THROWING);
            throwing(x, kind);
            due.is("24 of KIND " + kind, x.run(0, 24, 500), 0);
            due.is("24 of KIND " + kind + ": it gave", x.latest(0), kind);
            due.is("25 of KIND " + kind, x.run(0, 25, 500), kind <= 6 ? 1 : 0);
            due.is("25 of KIND " + kind + ": GUARDS", x.latest(6), kind <= 6 ? 24 : 25);
            due.is("25 of KIND " + kind + ": FRAMES", x.latest(4), 26);
        }
    }

    private static void kindsTogether(Due due) {
        // METHOD 0 throws each of the KINDS 1 to 6 once, NUMBER 0 times over.
        StepBudgets x = new StepBudgets();
        Acts.of(x, 0).set(1, -1)
            .reckon(4, 2, 2, 2).size(2, 0).make(1, 0, 2).put(1, 1, 2, 2).make(2, 1, 2).copy(1, 2, 2)
            .get(3, 1, 0, 2).make(0, 0, 1).reckon(1, 0, 0, 1).goIf(0, 1).give(5);
        int[] throwsAt = {1, 2, 4, 6, 7, 8};
        for (int kind = 1; kind <= 6; kind++) {
            int at = throwsAt[kind - 1];
            due.is("GUARD of KIND " + kind, x.guard(0, at, at + 1, kind, at + 1), kind - 1);
        }
        due.is("4 of each KIND", x.run(0, 4, 500), 0);
        due.is("4 of each KIND: GUARDS", x.latest(6), 24);
        due.is("5 of each KIND", x.run(0, 5, 500), 1);
        due.is("5 of each KIND: GUARDS", x.latest(6), 24);
    }

    private static void otherKindsBeside(Due due) {
        // Once round: KIND 8, then KIND 1, then KIND 7.
        StepBudgets x = new StepBudgets();
        Acts.of(x, 0).set(1, -1).set(3, 65).raise(8).reckon(4, 2, 2, 2).make(0, 0, 3).reckon(1, 0, 0, 1).goIf(0, 2).give(5);
        x.guard(0, 2, 3, 8, 3);
        x.guard(0, 3, 4, 1, 4);
        x.guard(0, 4, 5, 7, 5);
        due.is("24 among others", x.run(0, 24, 500), 0);
        due.is("24 among others: GUARDS", x.latest(6), 72);
        due.is("25 among others", x.run(0, 25, 500), 1);
        due.is("25 among others: GUARDS", x.latest(6), 73);
    }

    private static void eachRunBeginsAnew(Due due) {
        StepBudgets x = caller(THROWING);
        throwing(x, 1);
        for (int i = 0; i < 5; i++) {
            due.is("24, run " + i, x.run(0, 24, 500), 0);
        }
        due.is("25", x.run(0, 25, 500), 1);
        due.is("24 behind it", x.run(0, 24, 500), 0);
    }

    private static void notThoseOutOfCalls(Due due) {
        // Through METHODS 1 and 2 it comes out of three CALLS, and begins once.
        StepBudgets x = caller(1);
        Acts.of(x, 1).call(1, 2, 0, 0);
        Acts.of(x, 2).call(1, THROWING, 0, 0);
        throwing(x, 1);
        due.is("24 out of CALLS", x.run(0, 24, 500), 0);
        due.is("24 out of CALLS: GUARDS", x.latest(6), 24);
        due.is("25 out of CALLS", x.run(0, 25, 500), 1);
    }

    private static void notThoseOutOfCleans(Due due) {
        // METHOD 1 gives, but its CLEAN throws: that is what METHOD 1 throws, and it begins once.
        StepBudgets x = caller(1);
        Acts.of(x, 1).give(0);
        x.clean(1, 0, 1, THROWING);
        throwing(x, 2);
        due.is("24 out of CLEANS", x.run(0, 24, 500), 0);
        due.is("24 out of CLEANS: it gave", x.latest(0), 2);
        due.is("25 out of CLEANS", x.run(0, 25, 500), 1);
        due.is("25 out of CLEANS: CLEANS", x.latest(5), 25);
    }

    private static void stoppedWhereItWouldBeThrown(Due due) {
        // The CLEAN of METHOD 1 holds the ACT that throws; STOPPED there, it is run with the RESERVE.
        StepBudgets x = caller(1);
        Acts.of(x, 1).reckon(4, 1, 1, 1);
        x.clean(1, 0, 1, 2);
        due.is("24 with CLEANS", x.run(0, 24, 500), 0);
        due.latest("24 with CLEANS", x, 1, 0, 1 + 24 * 3 + 23, 0, 49, 24, 24, 0, 3);
        due.is("25 with CLEANS", x.run(0, 25, 500), 1);
        due.latest("25 with CLEANS", x, 0, 0, 1 + 24 * 4 + 1, 1, 51, 25, 24, 0, 3);
        due.cleaned("25 with CLEANS", x, 24, 2, 1, 3);
    }

    private static void stepOfNewComesAhead(Due due) {
        // FRAME and 24 times NEW, GUARD, IF; the STEP of the 25th NEW is counted, and its THROW STOPS the run.
        StepBudgets x = new StepBudgets();
        Acts.of(x, 0).set(1, -1).make(0, 0, 1).reckon(1, 0, 0, 1).goIf(0, 1);
        x.guard(0, 1, 2, 6, 2);
        due.is("the 25th NEW", x.run(0, 25, 500), 1);
        due.latest("the 25th NEW", x, 0, 0, 1 + 24 * 3 + 1, 0, 1, 0, 24, 0, 1);
    }

    private static void asStepAboveReserve(Due due) {
        // METHOD 0 throws NUMBER 0 times and loops; METHOD 1 cleans up and throws twice, METHOD 2 behind it.
        StepBudgets x = new StepBudgets();
        Acts.of(x, 0).set(1, -1).reckon(4, 2, 2, 2).reckon(1, 0, 0, 1).goIf(0, 1).go(4);
        x.guard(0, 1, 2, 0, 2);
        x.clean(0, 4, 5, 2);
        x.clean(0, 4, 5, 1);
        Acts.of(x, 1).reckon(4, 2, 2, 2).reckon(5, 2, 2, 2);
        x.guard(1, 0, 1, 0, 1);
        int[][] rows = {
            // THROWS of METHOD 0, STEPS of the RESERVE, CLEANS, GUARDS, overrun
            {22, 3, 2, 23, 0}, {23, 2, 1, 24, 1}, {24, 1, 1, 24, 1},
        };
        for (int[] r : rows) {
            String call = r[0] + " ahead of the RESERVE";
            due.is(call, x.run(0, r[0], 500), 1);
            due.latest(call, x, 0, 0, 500, r[1], 1 + r[2], r[2], r[3], r[4], 2);
        }
    }
}
