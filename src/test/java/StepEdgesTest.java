/**
 * A STEP that would come above the BUDGET, and one that would come above the RESERVE: for each thing that
 * takes STEPS a METHOD that comes to its end with just so many, and is STOPPED (or ends all) with one less.
 */
public final class StepEdgesTest {
    /** METHODS 0 and 1 are the frame of a test: 0 loops, and a CLEAN of it is run by METHOD 1. */
    private static final int TRIED = 1;
    private static final int EMPTY = 7;

    private final Due due;

    private StepEdgesTest(Due due) {
        this.due = due;
    }

    public static void main(String[] args) {
        Due due = new Due("edges of steps");
        StepEdgesTest test = new StepEdgesTest(due);
        test.firstFrame();
        test.frameOfCall();
        test.frameOfClean();
        test.goToItself();
        test.goAhead();
        test.ifAhead();
        test.goOnTakesNone();
        test.guardEntered();
        test.guardNotEnteredTakesNone();
        test.newRows();
        test.newRowsThatThrow();
        test.otherActsTakeNone();
        test.thirteenthFrame();
        test.mostOfBudget();
        test.mostOfReserve();
        test.reserveIsNotTheRestOfBudget();
        test.nothingRunsBehindTheReserve();
        due.end();
    }

    private static StepBudgets around() {
        StepBudgets x = new StepBudgets();
        Acts.of(x, 0).go(0);
        x.clean(0, 0, 1, TRIED);
        return x;
    }

    /**
     * METHOD 1 takes so many STEPS in all. With a BUDGET of one less it is STOPPED with so many counted, and
     * with a RESERVE of one less all ends with so many counted.
     */
    private void takes(String call, StepBudgets x, int number, int outcome, int steps, int countedOfLess) {
        due.is(call + ", just enough", x.run(TRIED, number, steps), outcome);
        due.is(call + ", just enough: STEPS", x.latest(2), steps);
        due.is(call + ", just enough: of the RESERVE", x.latest(3), 0);
        due.is(call + ", one more", x.run(TRIED, number, steps + 1), outcome);
        due.is(call + ", one more: STEPS", x.latest(2), steps);
        due.is(call + ", one less", x.run(TRIED, number, steps - 1), 1);
        due.is(call + ", one less: STEPS", x.latest(2), countedOfLess);
        x.reserve(steps);
        due.is(call + " in RESERVE, just enough", x.run(0, number, 1), 1);
        due.is(call + " in RESERVE, just enough: STEPS", x.latest(3), steps);
        due.is(call + " in RESERVE, just enough: overrun", x.latest(7), 0);
        x.reserve(steps - 1);
        due.is(call + " in RESERVE, one less", x.run(0, number, 1), 1);
        due.is(call + " in RESERVE, one less: STEPS", x.latest(3), countedOfLess);
        due.is(call + " in RESERVE, one less: overrun", x.latest(7), 1);
        due.is(call + " in RESERVE: of the BUDGET", x.latest(2), 1);
    }

    private void firstFrame() {
        StepBudgets x = around();
        takes("the first FRAME", x, 0, 0, 1, 0);
        due.is("no BUDGET", x.run(TRIED, 0, 0), 1);
        due.latest("no BUDGET", x, 0, 0, 0, 0, 0, 0, 0, 0, 0);
    }

    private void frameOfCall() {
        StepBudgets x = around();
        Acts.of(x, TRIED).call(1, EMPTY, 0, 0);
        takes("FRAME of a CALL", x, 0, 0, 2, 1);
        x.run(TRIED, 0, 1);
        due.latest("FRAME of a CALL, one less", x, 0, 0, 1, 0, 1, 0, 0, 0, 1);
    }

    private void frameOfClean() {
        StepBudgets x = around();
        Acts.of(x, TRIED).set(1, 1);
        x.clean(TRIED, 0, 1, EMPTY);
        takes("FRAME of a CLEAN", x, 0, 0, 2, 1);
        // That CLEAN had no FRAME yet: it has one with the RESERVE.
        x.reserve(1);
        x.run(TRIED, 0, 1);
        due.latest("FRAME of a CLEAN, one less", x, 0, 0, 1, 1, 2, 1, 0, 0, 2);
    }

    private void goToItself() {
        StepBudgets x = around();
        Acts.of(x, TRIED).go(0);
        due.is("GO to itself", x.run(TRIED, 0, 9), 1);
        due.is("GO to itself: STEPS", x.latest(2), 9);
        StepBudgets y = around();
        Acts.of(y, TRIED).goIf(0, 0);
        due.is("IF to itself", y.run(TRIED, 1, 9), 1);
        due.is("IF to itself: STEPS", y.latest(2), 9);
    }

    private void goAhead() {
        StepBudgets x = around();
        Acts.of(x, TRIED).go(2).go(4).go(1);
        takes("GO to one ahead", x, 0, 0, 2, 1);
    }

    private void ifAhead() {
        StepBudgets x = around();
        Acts.of(x, TRIED).set(1, -1).reckon(1, 0, 0, 1).goIf(0, 1);
        takes("IF that goes twice", x, 3, 0, 3, 2);
        takes("IF that does not go", x, 1, 0, 1, 0);
    }

    private void goOnTakesNone() {
        StepBudgets x = around();
        Acts.of(x, TRIED).go(1).goIf(0, 2).goIf(0, 4).raise(8).go(48);
        takes("GO, IF to later ACTS", x, 1, 0, 1, 0);
    }

    private void guardEntered() {
        StepBudgets x = around();
        Acts.of(x, TRIED).raise(8).set(1, 1);
        x.guard(TRIED, 0, 1, 8, 1);
        takes("a GUARD", x, 0, 0, 2, 1);
        x.run(TRIED, 0, 1);
        due.latest("a GUARD, one less", x, 0, 0, 1, 0, 1, 0, 0, 0, 1);
    }

    private void guardNotEnteredTakesNone() {
        StepBudgets x = around();
        Acts.of(x, TRIED).raise(8).set(1, 1);
        x.guard(TRIED, 0, 1, 9, 1);
        x.guard(TRIED, 1, 2, 8, 1);
        takes("GUARDS that are not entered", x, 0, 2, 1, 0);
    }

    private void newRows() {
        int[][] rows = {{0, 1}, {1, 1}, {7, 1}, {8, 2}, {15, 2}, {16, 3}, {56, 8}, {63, 8}, {64, 9}};
        for (int[] r : rows) {
            StepBudgets x = around();
            Acts.of(x, TRIED).set(1, r[0]).make(0, 1, 1);
            // All of the STEPS of a NEW or none: but for the FRAME's.
            takes("NEW of " + r[0], x, 0, 0, 1 + r[1], 1);
        }
    }

    private void newRowsThatThrow() {
        for (int size : new int[] {-1, Integer.MIN_VALUE, 65, 72, Integer.MAX_VALUE}) {
            StepBudgets x = around();
            Acts.of(x, TRIED).set(1, size).make(0, 1, 1);
            takes("NEW of " + size, x, 0, 2, 2, 1);
        }
    }

    private void otherActsTakeNone() {
        StepBudgets x = around();
        Acts.of(x, TRIED).make(0, 1, 2).set(1, 6).reckon(1, 2, 1, 1).reckon(2, 2, 2, 1).reckon(3, 2, 2, 1)
            .reckon(4, 2, 2, 1).reckon(5, 2, 2, 1).size(3, 0).copy(0, 0, 3).give(3);
        takes("ACTS beside a NEW", x, 0, 0, 2, 1);
        StepBudgets y = around();
        Acts.of(y, TRIED).set(1, 6).make(0, 1, 1).put(0, 1, 2, 1).get(3, 0, 1, 2).raise(8);
        takes("ACTS beside a NEW, and a THROW", y, 0, 2, 2, 1);
    }

    private void thirteenthFrame() {
        // Twelve FRAMES, and the STEP of the 13th, which is counted ahead of the ROOM that it throws.
        StepBudgets x = new StepBudgets();
        Acts.of(x, 0).call(1, 0, 0, 0);
        due.is("13 FRAMES", x.run(0, 0, 13), 2);
        due.latest("13 FRAMES", x, 0, 7, 13, 0, 12, 0, 0, 0, 12);
        due.is("no STEP for the 13th", x.run(0, 0, 12), 1);
        due.latest("no STEP for the 13th", x, 0, 0, 12, 0, 12, 0, 0, 0, 12);
    }

    private void mostOfBudget() {
        // A FRAME, and NUMBER 0 less one times round.
        StepBudgets x = around();
        Acts.of(x, TRIED).set(1, -1).reckon(1, 0, 0, 1).goIf(0, 1);
        due.is("500 of 500", x.run(TRIED, 500, 500), 0);
        due.is("500 of 500: STEPS", x.latest(2), 500);
        due.is("501 of 500", x.run(TRIED, 501, 500), 1);
        due.is("501 of 500: STEPS", x.latest(2), 500);
    }

    private void mostOfReserve() {
        StepBudgets x = around();
        Acts.of(x, TRIED).set(1, -1).reckon(1, 0, 0, 1).goIf(0, 1);
        x.reserve(100);
        due.is("100 of 100", x.run(0, 100, 500), 1);
        due.latest("100 of 100", x, 0, 0, 500, 100, 2, 1, 0, 0, 2);
        due.is("101 of 100", x.run(0, 101, 500), 1);
        due.latest("101 of 100", x, 0, 0, 500, 100, 2, 1, 0, 1, 2);
        x.reserve(0);
        due.is("1 of 0", x.run(0, 1, 500), 1);
        due.latest("1 of 0", x, 0, 0, 500, 0, 1, 0, 0, 1, 1);
    }

    private void reserveIsNotTheRestOfBudget() {
        // The NEW of 64 places would take 9: 4 of the BUDGET of 5 are left, and are not what cleans up.
        StepBudgets x = new StepBudgets();
        Acts.of(x, 0).set(1, 64).make(0, 0, 1);
        x.clean(0, 1, 2, TRIED);
        Acts.of(x, TRIED).set(1, -1).reckon(1, 0, 0, 1).goIf(0, 1);
        x.reserve(3);
        due.is("RESERVE of 3", x.run(0, 3, 5), 1);
        due.latest("RESERVE of 3", x, 0, 0, 1, 3, 2, 1, 0, 0, 2);
        due.is("RESERVE of 3, 4 are asked", x.run(0, 4, 5), 1);
        due.latest("RESERVE of 3, 4 are asked", x, 0, 0, 1, 3, 2, 1, 0, 1, 2);
    }

    private void nothingRunsBehindTheReserve() {
        // FRAMES of METHODS 0, 2, 3, each with a CLEAN that takes a STEP; METHOD 3 loops.
        StepBudgets x = new StepBudgets();
        Acts.of(x, 0).call(1, 2, 0, 0);
        x.clean(0, 0, 1, EMPTY);
        Acts.of(x, 2).call(1, 3, 0, 0);
        x.clean(2, 0, 1, EMPTY);
        Acts.of(x, 3).go(0);
        x.clean(3, 0, 1, EMPTY);
        for (int reserve = 0; reserve <= 4; reserve++) {
            int run = Math.min(reserve, 3);
            x.reserve(reserve);
            due.is("RESERVE of " + reserve, x.run(0, 0, 9), 1);
            due.latest("RESERVE of " + reserve, x, 0, 0, 9, run, 3 + run, run, 0, reserve < 3 ? 1 : 0);
        }
    }
}
