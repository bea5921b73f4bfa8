/** Promise 6: reserve. */
public final class Promise06Test {
    public static void main(String[] args) {
        Due due = new Due("promise 6");
        StepBudgets x = new StepBudgets();
        for (int n : new int[] {-1, 101, Integer.MIN_VALUE, Integer.MAX_VALUE}) {
            due.is("reserve(" + n + ")", x.reserve(n), -1);
        }
        due.is("reserve(0)", x.reserve(0), 10);
        due.is("reserve(100)", x.reserve(100), 0);
        due.is("reserve(101)", x.reserve(101), -1);
        due.is("reserve(7)", x.reserve(7), 100);
        due.is("reserve(7)", x.reserve(7), 7);
        // A CLEAN that never ends takes all of the RESERVE, which is there again for the next run.
        Acts.of(x, 0).go(0);
        Acts.of(x, 1).go(0);
        x.clean(0, 0, 1, 1);
        for (int n : new int[] {7, 0, 1, 100}) {
            x.reserve(n);
            for (int again = 0; again < 2; again++) {
                due.is("run with RESERVE " + n, x.run(0, 0, 5), 1);
                due.latest("RESERVE " + n, x, 0, 0, 5, n, n > 0 ? 2 : 1, n > 0 ? 1 : 0, 0, 1, n > 0 ? 2 : 1);
            }
        }
        due.end();
    }
}
