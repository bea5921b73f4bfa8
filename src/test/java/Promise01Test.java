/** Promise 1: a new object. */
public final class Promise01Test {
    private static final int NONE = -3;

    public static void main(String[] args) {
        Due due = new Due("promise 1");
        methodsHaveNothing(due);
        methodsWithoutActsGiveZero(due);
        reserveIsTen(due);
        reserveOfTenIsWhatCleansUp(due);
        noRunYet(due);
        objectsShareNothing(due);
        due.end();
    }

    private static void methodsHaveNothing(Due due) {
        StepBudgets x = new StepBudgets();
        for (int m = 0; m < 8; m++) {
            for (int what = 0; what < 3; what++) {
                due.is("told(" + m + ", " + what + ")", x.told(m, what), 0);
            }
        }
    }

    private static void methodsWithoutActsGiveZero(Due due) {
        StepBudgets x = new StepBudgets();
        for (int m = 0; m < 8; m++) {
            due.is("run without ACTS", x.run(m, 7, 1), 0);
            due.latest("run without ACTS", x, 0, 0, 1, 0, 1, 0, 0, 0, 1);
        }
    }

    private static void reserveIsTen(Due due) {
        due.is("reserve(10)", new StepBudgets().reserve(10), 10);
        due.is("reserve(0)", new StepBudgets().reserve(0), 10);
    }

    private static void reserveOfTenIsWhatCleansUp(Due due) {
        StepBudgets x = new StepBudgets();
        Acts.of(x, 0).go(0);
        x.clean(0, 0, 1, 0);
        due.is("a run that is STOPPED", x.run(0, 0, 20), 1);
        due.latest("a run that is STOPPED", x, 0, 0, 20, 10, 2, 1, 0, 1, 2);
    }

    private static void noRunYet(Due due) {
        StepBudgets x = new StepBudgets();
        due.latest("ahead of a run", x, 0, 0, 0, 0, 0, 0, 0, 0, 0);
        due.cleaned("ahead of a run", x, 0, NONE, NONE, NONE);
    }

    private static void objectsShareNothing(Due due) {
        StepBudgets x = new StepBudgets();
        StepBudgets other = new StepBudgets();
        Acts.of(x, 0).go(0);
        x.guard(0, 0, 1, 0, 0);
        x.clean(0, 0, 1, 1);
        x.reserve(3);
        x.run(0, 0, 5);
        for (int what = 0; what < 3; what++) {
            due.is("another object: told(0, " + what + ")", other.told(0, what), 0);
        }
        due.latest("another object", other, 0, 0, 0, 0, 0, 0, 0, 0, 0);
        due.cleaned("another object", other, 0, NONE, NONE, NONE);
        due.is("another object: reserve", other.reserve(3), 10);
    }
}
