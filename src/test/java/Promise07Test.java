/** Promise 7: run. The edges that the terms name are in RunEdgesTest, StepEdgesTest and ThrowsTest. */
public final class Promise07Test {
    private static final int MIN = Integer.MIN_VALUE;
    private static final int MAX = Integer.MAX_VALUE;
    private static final int BAD = -1;

    public static void main(String[] args) {
        Due due = new Due("promise 7");
        wrongMethods(due);
        budgetTooSmall(due);
        budgetTooLarge(due);
        leastBudget(due);
        mostBudget(due);
        itGave(due);
        itWasStopped(due);
        itThrew(due);
        numberZeroIsAny(due);
        allElseIsZeroAndNone(due);
        runsLeaveNothingBehind(due);
        due.end();
    }

    /** METHODS that give NUMBER 0 (0), loop (3), throw KIND 9 (7). */
    private static StepBudgets three() {
        StepBudgets x = new StepBudgets();
        Acts.of(x, 0).give(0);
        Acts.of(x, 3).go(0);
        Acts.of(x, 7).raise(9);
        return x;
    }

    private static void wrongMethods(Due due) {
        StepBudgets x = three();
        for (int m : new int[] {-1, 8, MIN, MAX}) {
            due.is("run(" + m + ")", x.run(m, 0, 5), BAD);
        }
    }

    private static void budgetTooSmall(Due due) {
        for (int budget : new int[] {-1, MIN}) {
            due.is("BUDGET " + budget, three().run(0, 0, budget), BAD);
        }
    }

    private static void budgetTooLarge(Due due) {
        for (int budget : new int[] {501, MAX}) {
            due.is("BUDGET " + budget, three().run(0, 0, budget), BAD);
        }
    }

    private static void leastBudget(Due due) {
        StepBudgets x = three();
        for (int m = 0; m < 8; m++) {
            due.is("BUDGET 0", x.run(m, 4, 0), 1);
            due.latest("BUDGET 0", x, 0, 0, 0, 0, 0, 0, 0, 0, 0);
        }
    }

    private static void mostBudget(Due due) {
        StepBudgets x = three();
        due.is("BUDGET 500", x.run(3, 0, 500), 1);
        due.latest("BUDGET 500", x, 0, 0, 500, 0, 1, 0, 0, 0, 1);
        due.is("BUDGET 499", x.run(3, 0, 499), 1);
        due.latest("BUDGET 499", x, 0, 0, 499, 0, 1, 0, 0, 0, 1);
    }

    private static void itGave(Due due) {
        StepBudgets x = three();
        due.is("it gave", x.run(0, 6, 1), 0);
        due.latest("it gave", x, 6, 0, 1, 0, 1, 0, 0, 0, 1);
    }

    private static void itWasStopped(Due due) {
        StepBudgets x = three();
        due.is("it was STOPPED", x.run(3, 6, 8), 1);
        due.latest("it was STOPPED", x, 0, 0, 8, 0, 1, 0, 0, 0, 1);
    }

    private static void itThrew(Due due) {
        StepBudgets x = three();
        due.is("it threw", x.run(7, 6, 8), 2);
        due.latest("it threw", x, 0, 9, 1, 0, 1, 0, 0, 0, 1);
    }

    private static void numberZeroIsAny(Due due) {
        StepBudgets x = three();
        for (int value : new int[] {0, 5, -1, MIN, MAX}) {
            due.is("run(0, " + value + ")", x.run(0, value, 1), 0);
            due.is("NUMBER 0", x.latest(0), value);
        }
    }

    private static void allElseIsZeroAndNone(Due due) {
        for (int number = 1; number < 6; number++) {
            StepBudgets x = new StepBudgets();
            Acts.of(x, 0).give(number);
            due.is("NUMBER " + number, x.run(0, 7, 1), 0);
            due.is("NUMBER " + number, x.latest(0), 0);
        }
        for (int row = 0; row < 3; row++) {
            StepBudgets x = new StepBudgets();
            Acts.of(x, 0).size(1, row);
            due.is("ROW " + row, x.run(0, 7, 1), 2);
            due.is("ROW " + row, x.latest(1), 2);
        }
    }

    private static void runsLeaveNothingBehind(Due due) {
        // METHOD 0 gives 5 if its NUMBER 1 is 0; METHOD 2 makes a ROW 0, and METHOD 1 asks for the size of its own.
        StepBudgets x = new StepBudgets();
        Acts.of(x, 0).goIf(1, 3).set(1, 5).give(1);
        Acts.of(x, 1).size(2, 0);
        Acts.of(x, 2).set(1, 5).make(0, 0, 1).give(1);
        for (int i = 0; i < 3; i++) {
            due.is("NUMBERS of a run", x.run(0, 1, 9), 0);
            due.is("NUMBERS of a run: it gave", x.latest(0), 5);
            due.is("ROWS of a run are made", x.run(2, 1, 9), 0);
            due.is("ROWS of a run are gone", x.run(1, 1, 9), 2);
        }
    }
}
