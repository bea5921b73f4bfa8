/** Promise 8: latest. */
public final class Promise08Test {
    public static void main(String[] args) {
        Due due = new Due("promise 8");
        StepBudgets x = new StepBudgets();
        // METHOD 0 divides by 0 under a GUARD, CALLs METHOD 1, makes a row of 9, then gives 6 or loops on.
        Acts.of(x, 0).reckon(4, 1, 1, 1).set(2, 9).make(0, 1, 2).call(3, 1, 0, 2).goIf(0, 4).give(3);
        x.guard(0, 0, 1, 1, 1);
        x.clean(0, 3, 6, 2);
        Acts.of(x, 1).set(1, 6).call(2, 3, 0, 1).give(1);
        Acts.of(x, 2).raise(8);
        x.guard(2, 0, 1, 0, 1);
        due.is("it gave", x.run(0, 0, 500), 0);
        // STEPS: FRAME, GUARD, NEW of 9 (2), two FRAMES; on giving: a CLEAN's FRAME and its GUARD.
        due.latest("it gave", x, 6, 0, 8, 0, 4, 1, 2, 0, 3);
        due.is("it was stopped", x.run(0, 1, 20), 1);
        due.latest("it was stopped", x, 0, 0, 20, 2, 4, 1, 2, 0, 3);
        x.reserve(1);
        due.is("it was overrun", x.run(0, 1, 20), 1);
        due.latest("it was overrun", x, 0, 0, 20, 1, 4, 1, 1, 1, 3);
        Acts.of(x, 4).raise(9);
        due.is("it threw", x.run(4, 0, 20), 2);
        due.latest("it threw", x, 0, 9, 1, 0, 1, 0, 0, 0, 1);
        for (int what : new int[] {-1, 9, Integer.MIN_VALUE, Integer.MAX_VALUE}) {
            due.is("latest(" + what + ")", x.latest(what), -1);
        }
        due.is("asked again", x.latest(1), 9);
        due.end();
    }
}
