/** Promise 1: a new object. */
public final class Promise01Test {
    public static void main(String[] args) {
        Due due = new Due("promise 1");
        StepBudgets x = new StepBudgets();
        for (int m = 0; m < 8; m++) {
            for (int what = 0; what < 3; what++) {
                due.is("told(" + m + ", " + what + ")", x.told(m, what), 0);
            }
        }
        due.latest("ahead of a run", x, 0, 0, 0, 0, 0, 0, 0, 0, 0);
        due.cleaned("ahead of a run", x, 0, StepBudgets.NONE, StepBudgets.NONE, StepBudgets.NONE);
        due.is("reserve(10)", x.reserve(10), 10);
        for (int m = 0; m < 8; m++) {
            due.is("run without ACTS", x.run(m, 7, 1), 0);
            due.latest("run without ACTS", x, 0, 0, 1, 0, 1, 0, 0, 0, 1);
        }
        StepBudgets other = new StepBudgets();
        Acts.of(x, 0).set(0, 1);
        due.is("another object", other.told(0, 0), 0);
        due.end();
    }
}
