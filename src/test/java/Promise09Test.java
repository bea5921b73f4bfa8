/** Promise 9: cleaned. */
public final class Promise09Test {
    private static final int MIN = Integer.MIN_VALUE;
    private static final int MAX = Integer.MAX_VALUE;
    private static final int BAD = -1;
    private static final int NONE = -3;

    public static void main(String[] args) {
        Due due = new Due("promise 9");
        wrongWhats(due);
        below0(due);
        wrongAheadOfNone(due);
        noneAheadOfRun(due);
        notSoMany(due);
        hundred(due);
        beyondHundred(due);
        onlyTheLatestRun(due);
        itsMethodAndWhoseFrame(due);
        asTheirFramesWereMade(due);
        framesWithinEachOther(due);
        due.end();
    }

    /** METHOD 5 is cleaned up behind, by METHOD 6, as often as NUMBER 0 says. */
    private static StepBudgets loop() {
        StepBudgets x = new StepBudgets();
        Acts.of(x, 5).set(1, -1).reckon(1, 0, 0, 1).goIf(0, 1);
        x.clean(5, 1, 2, 6);
        return x;
    }

    private static void isNone(Due due, String call, StepBudgets x, int k) {
        due.cleaned(call, x, k, NONE, NONE, NONE);
    }

    private static void wrongWhats(Due due) {
        StepBudgets x = loop();
        x.run(5, 3, 500);
        for (int what : new int[] {-1, 3, 4, MIN, MAX}) {
            due.is("cleaned(0, " + what + ")", x.cleaned(0, what), BAD);
            due.is("cleaned(2, " + what + ")", x.cleaned(2, what), BAD);
        }
    }

    private static void below0(Due due) {
        StepBudgets x = loop();
        x.run(5, 3, 500);
        for (int what = 0; what < 3; what++) {
            due.is("cleaned(-1, " + what + ")", x.cleaned(-1, what), BAD);
            due.is("cleaned(MIN, " + what + ")", x.cleaned(MIN, what), BAD);
        }
    }

    private static void wrongAheadOfNone(Due due) {
        StepBudgets x = loop();
        due.is("cleaned(0, 3)", x.cleaned(0, 3), BAD);
        due.is("cleaned(1000, -1)", x.cleaned(1000, -1), BAD);
        due.is("cleaned(MAX, 3)", x.cleaned(MAX, 3), BAD);
        due.is("cleaned(-1, 0)", x.cleaned(-1, 0), BAD);
        due.is("cleaned(-1, 3)", x.cleaned(-1, 3), BAD);
    }

    private static void noneAheadOfRun(Due due) {
        StepBudgets x = loop();
        for (int k : new int[] {0, 1, 99, 100, MAX}) {
            isNone(due, "ahead of a run", x, k);
        }
    }

    private static void notSoMany(Due due) {
        StepBudgets x = loop();
        for (int turns = 1; turns <= 5; turns++) {
            x.run(5, turns, 500);
            due.is("CLEANS", x.latest(5), turns);
            due.cleaned(turns + " CLEANS", x, turns - 1, 6, 5, 2);
            isNone(due, turns + " CLEANS", x, turns);
            isNone(due, turns + " CLEANS", x, MAX);
        }
    }

    private static void hundred(Due due) {
        StepBudgets x = loop();
        for (int turns = 99; turns <= 100; turns++) {
            x.run(5, turns, 500);
            due.is("CLEANS", x.latest(5), turns);
            for (int k = 0; k < turns; k += 33) {
                due.cleaned(turns + " CLEANS", x, k, 6, 5, 2);
            }
            due.cleaned(turns + " CLEANS", x, turns - 1, 6, 5, 2);
            isNone(due, turns + " CLEANS", x, turns);
        }
    }

    private static void beyondHundred(Due due) {
        StepBudgets x = loop();
        for (int turns : new int[] {101, 102, 240}) {
            due.is("run", x.run(5, turns, 500), 0);
            due.is("CLEANS, all counted", x.latest(5), turns);
            due.cleaned("the first", x, 0, 6, 5, 2);
            due.cleaned("the hundredth", x, 99, 6, 5, 2);
            isNone(due, "the hundred and first", x, 100);
            isNone(due, "the last", x, turns - 1);
            isNone(due, "beyond all", x, turns);
        }
    }

    private static void onlyTheLatestRun(Due due) {
        StepBudgets x = loop();
        x.run(5, 120, 500);
        x.run(5, 2, 500);
        due.cleaned("the last of two", x, 1, 6, 5, 2);
        isNone(due, "of an earlier run", x, 2);
        isNone(due, "of an earlier run", x, 99);
        x.run(0, 0, 1);
        isNone(due, "a run without CLEANS", x, 0);
    }

    private static void itsMethodAndWhoseFrame(Due due) {
        for (int m = 0; m < 8; m++) {
            for (int by = 0; by < 8; by++) {
                if (by != m) {
                    StepBudgets x = new StepBudgets();
                    Acts.of(x, m).set(1, 1);
                    x.clean(m, 0, 1, by);
                    x.run(m, 0, 9);
                    due.cleaned("a CLEAN of " + m + " by " + by, x, 0, by, m, 2);
                }
            }
        }
    }

    private static void asTheirFramesWereMade(Due due) {
        StepBudgets x = new StepBudgets();
        Acts.of(x, 0).call(1, 1, 0, 0);
        x.clean(0, 0, 1, 2);
        Acts.of(x, 1).give(0);
        x.clean(1, 0, 1, 3);
        Acts.of(x, 2).give(0);
        x.clean(2, 0, 1, 4);
        Acts.of(x, 3).raise(8);
        x.clean(3, 0, 1, 4);
        due.is("nested CLEANS", x.run(0, 0, 99), 2);
        due.is("nested CLEANS", x.latest(5), 4);
        // That of a CLEAN comes ahead of those within it.
        due.cleaned("nested", x, 0, 3, 1, 3);
        due.cleaned("nested", x, 1, 4, 3, 4);
        due.cleaned("nested", x, 2, 2, 0, 2);
        due.cleaned("nested", x, 3, 4, 2, 3);
        isNone(due, "nested", x, 4);
    }

    private static void framesWithinEachOther(Due due) {
        // METHOD 0 CALLs itself NUMBER 0 times; each of its FRAMES is cleaned up behind, the innermost first.
        StepBudgets x = new StepBudgets();
        Acts.of(x, 0).goIf(0, 2).give(0).set(1, -1).reckon(1, 0, 0, 1).call(2, 0, 0, 0).give(2);
        x.clean(0, 0, 6, 1);
        due.is("11 FRAMES", x.run(0, 10, 99), 0);
        for (int k = 0; k < 11; k++) {
            due.cleaned("11 FRAMES", x, k, 1, 0, 12 - k);
        }
        isNone(due, "11 FRAMES", x, 11);
    }
}
