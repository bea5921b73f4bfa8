/** Promise 9: cleaned. */
public final class Promise09Test {
    public static void main(String[] args) {
        Due due = new Due("promise 9");
        refusals(due);
        kept(due);
        nested(due);
        due.end();
    }

    private static void refusals(Due due) {
        StepBudgets x = new StepBudgets();
        for (int what : new int[] {-1, 3, Integer.MIN_VALUE, Integer.MAX_VALUE}) {
            due.is("cleaned(0, " + what + ")", x.cleaned(0, what), -1);
            due.is("cleaned(1000, " + what + ")", x.cleaned(1000, what), -1);
        }
        due.is("cleaned(-1, 0)", x.cleaned(-1, 0), -1);
        due.is("cleaned(MIN, 2)", x.cleaned(Integer.MIN_VALUE, 2), -1);
        due.is("cleaned(0, 0)", x.cleaned(0, 0), -3);
        due.is("cleaned(MAX, 2)", x.cleaned(Integer.MAX_VALUE, 2), -3);
    }

    private static void kept(Due due) {
        StepBudgets x = new StepBudgets();
        // A loop of two ACTS, the first of which is cleaned up behind each time round.
        Acts.of(x, 5).set(1, -1).reckon(1, 0, 0, 1).goIf(0, 1);
        x.clean(5, 1, 2, 6);
        for (int turns : new int[] {99, 100, 101, 150, 1}) {
            due.is("run", x.run(5, turns, 500), 0);
            due.is("CLEANS", x.latest(5), turns);
            int last = Math.min(turns, 100) - 1;
            due.cleaned("the first", x, 0, 6, 5, 2);
            due.cleaned("the last that is kept", x, last, 6, 5, 2);
            due.cleaned("one more", x, last + 1, -3, -3, -3);
            due.cleaned("the hundred and first", x, 100, -3, -3, -3);
        }
        due.is("run", x.run(0, 0, 1), 0);
        due.cleaned("a run without CLEANS", x, 0, -3, -3, -3);
    }

    private static void nested(Due due) {
        StepBudgets x = new StepBudgets();
        Acts.of(x, 0).call(1, 1, 0, 0);
        x.clean(0, 0, 1, 2);
        Acts.of(x, 1).give(0);
        x.clean(1, 0, 1, 3);
        Acts.of(x, 2).give(0);
        x.clean(2, 0, 1, 4);
        Acts.of(x, 3).raise(8);
        x.clean(3, 0, 1, 4);
        due.is("nested CLEANS", x.run(0, 0, 99), 2);
        due.is("nested CLEANS", x.latest(5), 4);
        // As their FRAMES were made: that of a CLEAN comes ahead of those within it.
        due.cleaned("nested", x, 0, 3, 1, 3);
        due.cleaned("nested", x, 1, 4, 3, 4);
        due.cleaned("nested", x, 2, 2, 0, 2);
        due.cleaned("nested", x, 3, 4, 2, 3);
        due.cleaned("nested", x, 4, -3, -3, -3);
    }
}
