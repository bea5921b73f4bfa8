/** Promise 7: run. */
public final class Promise07Test {
    public static void main(String[] args) {
        Due due = new Due("promise 7");
        StepBudgets x = new StepBudgets();
        Acts.of(x, 0).give(0);
        Acts.of(x, 7).raise(9);
        Acts.of(x, 3).go(0);
        for (int value : new int[] {0, 5, -1, Integer.MIN_VALUE, Integer.MAX_VALUE}) {
            due.is("run(0)", x.run(0, value, 1), 0);
            due.latest("run(0)", x, value, 0, 1, 0, 1, 0, 0, 0, 1);
        }
        due.is("it threw", x.run(7, 0, 500), 2);
        due.latest("it threw", x, 0, 9, 1, 0, 1, 0, 0, 0, 1);
        due.is("it was stopped", x.run(3, 0, 500), 1);
        due.latest("it was stopped", x, 0, 0, 500, 0, 1, 0, 0, 0, 1);
        for (int m : new int[] {-1, 8, Integer.MIN_VALUE, Integer.MAX_VALUE}) {
            due.is("run(" + m + ")", x.run(m, 0, 5), -1);
        }
        for (int budget : new int[] {-1, 501, Integer.MIN_VALUE, Integer.MAX_VALUE}) {
            due.is("run(0, 0, " + budget + ")", x.run(0, 0, budget), -1);
        }
        due.latest("what is refused changes nothing", x, 0, 0, 500, 0, 1, 0, 0, 0, 1);
        due.is("no BUDGET", x.run(0, 4, 0), 1);
        due.latest("no BUDGET", x, 0, 0, 0, 0, 0, 0, 0, 0, 0);
        due.is("no BUDGET, no ACTS", x.run(5, 4, 0), 1);
        due.is("just enough", x.run(0, 4, 1), 0);
        due.end();
    }
}
