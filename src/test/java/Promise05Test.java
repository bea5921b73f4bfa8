/** Promise 5: clear. */
public final class Promise05Test {
    private static final int BAD = -1;

    public static void main(String[] args) {
        Due due = new Due("promise 5");
        wrongMethods(due);
        clearOfNone(due);
        clearOfFull(due);
        howManyActsItHad(due);
        nothingIsHeldAnyMore(due);
        numbersBeginAgain(due);
        allElseStays(due);
        due.end();
    }

    /** METHODS 0 to 6 have 3 ACTS, a GUARD and two CLEANS by METHOD 7; run, each gives 3. */
    private static StepBudgets filled() {
        StepBudgets x = new StepBudgets();
        for (int m = 0; m < 7; m++) {
            Acts.of(x, m).set(1, 3).raise(8).give(1);
            x.guard(m, 0, 3, 0, 2);
            x.clean(m, 0, 3, 7);
            x.clean(m, 0, 3, 7);
        }
        return x;
    }

    private static void wrongMethods(Due due) {
        StepBudgets x = filled();
        for (int m : new int[] {-1, 8, Integer.MIN_VALUE, Integer.MAX_VALUE}) {
            due.is("clear(" + m + ")", x.clear(m), BAD);
        }
    }

    private static void clearOfNone(Due due) {
        StepBudgets x = new StepBudgets();
        for (int m = 0; m < 8; m++) {
            due.is("clear of none", x.clear(m), 0);
        }
        x.guard(4, 0, 1, 0, 0);
        x.clean(4, 0, 1, 0);
        due.is("clear of GUARDS and CLEANS alone", x.clear(4), 0);
        due.is("GUARDS", x.told(4, 1), 0);
        due.is("CLEANS", x.told(4, 2), 0);
    }

    private static void clearOfFull(Due due) {
        StepBudgets x = new StepBudgets();
        for (int i = 0; i < 48; i++) {
            x.act(1, 0, 0, 0, 0, 0);
        }
        for (int i = 0; i < 6; i++) {
            x.guard(1, 0, 1, 0, 0);
            x.clean(1, 0, 1, 0);
        }
        due.is("clear of 48", x.clear(1), 48);
        for (int i = 0; i < 48; i++) {
            due.is("room for ACTS again", x.act(1, 0, 0, 0, 0, 0), i);
        }
        for (int i = 0; i < 6; i++) {
            due.is("room for GUARDS again", x.guard(1, 0, 1, 0, 0), i);
            due.is("room for CLEANS again", x.clean(1, 0, 1, 0), i);
        }
        due.is("and no more", x.act(1, 0, 0, 0, 0, 0), -2);
        due.is("and no more", x.guard(1, 0, 1, 0, 0), -2);
        due.is("and no more", x.clean(1, 0, 1, 0), -2);
    }

    private static void howManyActsItHad(Due due) {
        StepBudgets x = new StepBudgets();
        for (int count = 0; count < 8; count++) {
            for (int i = 0; i < count; i++) {
                x.act(count, 0, 0, 0, 0, 0);
            }
            due.is("clear of " + count, x.clear(count), count);
            due.is("clear once more", x.clear(count), 0);
        }
    }

    private static void nothingIsHeldAnyMore(Due due) {
        StepBudgets x = filled();
        x.clear(2);
        for (int what = 0; what < 3; what++) {
            due.is("told(2, " + what + ")", x.told(2, what), 0);
        }
        Acts.of(x, 2).raise(9);
        due.is("no GUARD, no CLEAN", x.run(2, 0, 99), 2);
        due.latest("no GUARD, no CLEAN", x, 0, 9, 1, 0, 1, 0, 0, 0, 1);
    }

    private static void numbersBeginAgain(Due due) {
        StepBudgets x = filled();
        x.clear(2);
        due.is("act", x.act(2, 15, 0, 9, 0, 0), 0);
        due.is("guard", x.guard(2, 0, 1, 0, 0), 0);
        due.is("clean", x.clean(2, 0, 1, 0), 0);
    }

    private static void allElseStays(Due due) {
        StepBudgets x = filled();
        x.reserve(33);
        due.is("run", x.run(2, 0, 99), 0);
        due.is("clear(2)", x.clear(2), 3);
        due.latest("the latest run", x, 3, 0, 4, 0, 3, 2, 1, 0, 2);
        due.cleaned("the latest run", x, 1, 7, 2, 2);
        for (int m = 0; m < 7; m++) {
            if (m != 2) {
                due.is("ACTS of " + m, x.told(m, 0), 3);
                due.is("GUARDS of " + m, x.told(m, 1), 1);
                due.is("CLEANS of " + m, x.told(m, 2), 2);
            }
        }
        due.is("RESERVE", x.reserve(10), 33);
    }
}
