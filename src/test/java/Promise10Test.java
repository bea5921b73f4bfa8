/** Promise 10: told; and the constants. */
public final class Promise10Test {
    private static final int MIN = Integer.MIN_VALUE;
    private static final int MAX = Integer.MAX_VALUE;
    private static final int BAD = -1;

    public static void main(String[] args) {
        Due due = new Due("promise 10");
        wrongMethods(due);
        wrongWhats(due);
        actsOfEach(due);
        guardsOfEach(due);
        cleansOfEach(due);
        fullAndCleared(due);
        constants(due);
        due.end();
    }

    /** METHOD m has m + 1 ACTS, m / 2 GUARDS, m / 3 CLEANS. */
    private static StepBudgets staggered() {
        StepBudgets x = new StepBudgets();
        for (int m = 0; m < 8; m++) {
            for (int i = 0; i <= m; i++) {
                x.act(m, 0, 0, 0, 0, 0);
            }
            for (int i = 0; i < m / 2; i++) {
                x.guard(m, 0, 1, 0, 0);
            }
            for (int i = 0; i < m / 3; i++) {
                x.clean(m, 0, 1, 0);
            }
        }
        return x;
    }

    private static void wrongMethods(Due due) {
        StepBudgets x = staggered();
        for (int m : new int[] {-1, 8, MIN, MAX}) {
            for (int what = 0; what < 3; what++) {
                due.is("told(" + m + ", " + what + ")", x.told(m, what), BAD);
            }
        }
    }

    private static void wrongWhats(Due due) {
        StepBudgets x = staggered();
        for (int what : new int[] {-1, 3, MIN, MAX}) {
            due.is("told(0, " + what + ")", x.told(0, what), BAD);
            due.is("told(7, " + what + ")", x.told(7, what), BAD);
        }
    }

    private static void actsOfEach(Due due) {
        StepBudgets x = staggered();
        for (int m = 0; m < 8; m++) {
            due.is("told(" + m + ", 0)", x.told(m, 0), m + 1);
        }
    }

    private static void guardsOfEach(Due due) {
        StepBudgets x = staggered();
        for (int m = 0; m < 8; m++) {
            due.is("told(" + m + ", 1)", x.told(m, 1), m / 2);
        }
    }

    private static void cleansOfEach(Due due) {
        StepBudgets x = staggered();
        for (int m = 0; m < 8; m++) {
            due.is("told(" + m + ", 2)", x.told(m, 2), m / 3);
        }
    }

    private static void fullAndCleared(Due due) {
        StepBudgets x = new StepBudgets();
        for (int i = 0; i < 50; i++) {
            x.act(4, 0, 0, 0, 0, 0);
            x.guard(4, 0, 1, 0, 0);
            x.clean(4, 0, 1, 0);
        }
        due.is("told(4, 0)", x.told(4, 0), 48);
        due.is("told(4, 1)", x.told(4, 1), 6);
        due.is("told(4, 2)", x.told(4, 2), 6);
        x.clear(4);
        for (int what = 0; what < 3; what++) {
            due.is("told(4, " + what + ") of none", x.told(4, what), 0);
        }
    }

    private static void constants(Due due) {
        due.is("BAD", StepBudgets.BAD, -1);
        due.is("FULL", StepBudgets.FULL, -2);
        due.is("NONE", StepBudgets.NONE, -3);
    }
}
