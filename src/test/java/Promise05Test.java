/** Promise 5: clear. */
public final class Promise05Test {
    public static void main(String[] args) {
        Due due = new Due("promise 5");
        StepBudgets x = new StepBudgets();
        for (int m : new int[] {-1, 8, Integer.MIN_VALUE, Integer.MAX_VALUE}) {
            due.is("clear(" + m + ")", x.clear(m), -1);
        }
        due.is("clear of none", x.clear(7), 0);
        for (int m = 0; m < 7; m++) {
            due.is("clear of none", x.clear(m), 0);
            Acts.of(x, m).set(1, 3).raise(8).give(1);
            x.guard(m, 0, 3, 0, 2);
            x.clean(m, 0, 3, 7);
            x.clean(m, 0, 3, 7);
        }
        due.is("run", x.run(2, 0, 99), 0);
        due.is("latest(0)", x.latest(0), 3);
        int frames = x.latest(4);
        due.is("clear(2)", x.clear(2), 3);
        due.is("the latest run stays", x.latest(0), 3);
        due.is("the latest run stays", x.latest(4), frames);
        for (int what = 0; what < 3; what++) {
            due.is("told(2, " + what + ")", x.told(2, what), 0);
            due.is("told(3, " + what + ")", x.told(3, what), what == 0 ? 3 : what);
        }
        due.is("clear once more", x.clear(2), 0);
        due.is("numbers begin again", x.act(2, 15, 0, 9, 0, 0), 0);
        due.is("no GUARD, no CLEAN", x.run(2, 0, 99), 2);
        due.latest("no GUARD, no CLEAN", x, 0, 9, 1, 0, 1, 0, 0, 0, 1);
        due.is("numbers begin again", x.guard(2, 0, 1, 0, 0), 0);
        due.is("numbers begin again", x.clean(2, 0, 1, 0), 0);
        due.is("reserve stays", x.reserve(10), 10);
        StepBudgets y = new StepBudgets();
        for (int i = 0; i < 48; i++) {
            y.act(1, 0, 0, 0, 0, 0);
        }
        due.is("clear of 48", y.clear(1), 48);
        due.is("room again", y.act(1, 0, 0, 0, 0, 0), 0);
        due.end();
    }
}
