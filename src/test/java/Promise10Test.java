/** Promise 10: told. */
public final class Promise10Test {
    public static void main(String[] args) {
        Due due = new Due("promise 10");
        StepBudgets x = new StepBudgets();
        for (int bad : new int[] {-1, 8, Integer.MIN_VALUE, Integer.MAX_VALUE}) {
            due.is("told(" + bad + ", 0)", x.told(bad, 0), -1);
        }
        for (int bad : new int[] {-1, 3, Integer.MIN_VALUE, Integer.MAX_VALUE}) {
            due.is("told(0, " + bad + ")", x.told(0, bad), -1);
        }
        for (int m = 0; m < 8; m++) {
            for (int i = 0; i <= m; i++) {
                x.act(m, 0, 0, 0, 0, 0);
            }
            for (int i = 0; i < m / 2; i++) {
                x.guard(m, 0, 1, 0, 0);
            }
            for (int i = 0; i < m / 3; i++) {
                x.clean(m, 0, 1, 0);
            }
        }
        for (int m = 0; m < 8; m++) {
            due.is("told(" + m + ", 0)", x.told(m, 0), m + 1);
            due.is("told(" + m + ", 1)", x.told(m, 1), m / 2);
            due.is("told(" + m + ", 2)", x.told(m, 2), m / 3);
        }
        due.is("BAD", StepBudgets.BAD, -1);
        due.is("FULL", StepBudgets.FULL, -2);
        due.is("NONE", StepBudgets.NONE, -3);
        due.end();
    }
}
