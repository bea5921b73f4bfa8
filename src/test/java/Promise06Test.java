/** Promise 6: reserve. */
public final class Promise06Test {
    private static final int BAD = -1;

    public static void main(String[] args) {
        Due due = new Due("promise 6");
        tooSmall(due);
        tooLarge(due);
        leastAndMost(due);
        whatItWas(due);
        eachRunHasAllOfIt(due);
        due.end();
    }

    private static void tooSmall(Due due) {
        for (int n : new int[] {-1, -100, Integer.MIN_VALUE}) {
            StepBudgets x = new StepBudgets();
            due.is("reserve(" + n + ")", x.reserve(n), BAD);
            due.is("the RESERVE stays", x.reserve(1), 10);
        }
    }

    private static void tooLarge(Due due) {
        for (int n : new int[] {101, 1000, Integer.MAX_VALUE}) {
            StepBudgets x = new StepBudgets();
            due.is("reserve(" + n + ")", x.reserve(n), BAD);
            due.is("the RESERVE stays", x.reserve(1), 10);
        }
    }

    private static void leastAndMost(Due due) {
        StepBudgets x = new StepBudgets();
        due.is("reserve(0)", x.reserve(0), 10);
        due.is("reserve(100)", x.reserve(100), 0);
        due.is("reserve(99)", x.reserve(99), 100);
    }

    private static void whatItWas(Due due) {
        StepBudgets x = new StepBudgets();
        int was = 10;
        for (int n = 0; n <= 100; n++) {
            due.is("reserve(" + n + ")", x.reserve(n), was);
            was = n;
        }
        due.is("the same again", x.reserve(100), 100);
    }

    private static void eachRunHasAllOfIt(Due due) {
        StepBudgets x = new StepBudgets();
        Acts.of(x, 0).go(0);
        Acts.of(x, 1).go(0);
        x.clean(0, 0, 1, 1);
        for (int n : new int[] {7, 0, 1, 100}) {
            x.reserve(n);
            for (int again = 0; again < 2; again++) {
                due.is("run with RESERVE " + n, x.run(0, 0, 5), 1);
                due.latest("RESERVE " + n, x, 0, 0, 5, n, n > 0 ? 2 : 1, n > 0 ? 1 : 0, 0, 1, n > 0 ? 2 : 1);
            }
        }
    }
}
