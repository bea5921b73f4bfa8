/** Terms: when an ACT is LEFT, and which CLEANS are run then. */
public final class LeavingTest {
    public static void main(String[] args) {
        Due due = new Due("leaving");
        goingOn(due);
        leftOut(due);
        whatCleansSee(due);
        cleansThatThrow(due);
        noMoreBehindOneThatThrows(due);
        thrownIntoCaller(due);
        cleanTooDeep(due);
        guardsOnTheWay(due);
        ownThrowsOfCleans(due);
        cleansOfCleans(due);
        due.end();
    }

    private static void goingOn(Due due) {
        // ACTS 0 .. 4 are SETs; a CLEAN of any span is run once, on the way out of its last ACT.
        for (int from = 0; from < 5; from++) {
            for (int to = from + 1; to <= 6; to++) {
                StepBudgets x = new StepBudgets();
                Acts.of(x, 0).set(1, 1).set(1, 2).set(1, 3).set(1, 4).set(1, 5);
                x.clean(0, from, to, 1);
                due.is("span " + from + " " + to, x.run(0, 0, 2), 0);
                due.latest("span " + from + " " + to, x, 0, 0, 2, 0, 2, 1, 0, 0, 2);
            }
        }
        StepBudgets x = new StepBudgets();
        Acts.of(x, 0).set(1, 1);
        x.clean(0, 1, 48, 1);
        due.is("a CLEAN that holds no ACT", x.run(0, 0, 9), 0);
        due.is("a CLEAN that holds no ACT", x.latest(5), 0);
        x = new StepBudgets();
        x.clean(0, 0, 48, 1);
        due.is("a METHOD without ACTS", x.run(0, 0, 9), 0);
        due.is("a METHOD without ACTS", x.latest(5), 0);
        // Round ACTS 1, 2 three times: the first CLEAN holds both, the second ACT 1 alone, the third ACT 2 alone.
        x = new StepBudgets();
        Acts.of(x, 0).set(1, -1).reckon(1, 0, 0, 1).goIf(0, 1).give(0);
        x.clean(0, 1, 3, 1);
        x.clean(0, 1, 2, 2);
        x.clean(0, 2, 3, 3);
        due.is("a loop", x.run(0, 3, 99), 0);
        int[] by = {2, 3, 2, 3, 2, 3, 1};
        for (int k = 0; k < by.length; k++) {
            due.cleaned("a loop", x, k, by[k], 0, 2);
        }
        due.is("a loop", x.latest(5), 7);
        x = new StepBudgets();
        Acts.of(x, 0).go(0);
        x.clean(0, 0, 1, 1);
        x.reserve(0);
        due.is("GO to itself leaves nothing", x.run(0, 0, 9), 1);
        due.is("GO to itself leaves nothing", x.latest(5), 0);
    }

    private static void leftOut(Due due) {
        // Each METHOD leaves ACT 0 for OUT, in spans that reach behind its ACTS.
        StepBudgets x = new StepBudgets();
        Acts.of(x, 0).give(0);
        Acts.of(x, 1).go(48);
        Acts.of(x, 2).go(1);
        Acts.of(x, 3).raise(8);
        Acts.of(x, 4).raise(8);
        x.guard(4, 0, 1, 8, 9);
        Acts.of(x, 5).set(1, 1);
        for (int m = 0; m < 6; m++) {
            x.clean(m, 0, 48, 6);
            x.clean(m, 0, 48, 7);
            due.is("METHOD " + m, x.run(m, 5, 9), m == 3 ? 2 : 0);
            int guards = m == 4 ? 1 : 0;
            due.latest("METHOD " + m, x, m == 0 ? 5 : 0, m == 3 ? 8 : 0, 3 + guards, 0, 3, 2, guards, 0, 2);
            due.cleaned("METHOD " + m, x, 0, 7, m, 2);
            due.cleaned("METHOD " + m, x, 1, 6, m, 2);
        }
    }

    private static void whatCleansSee(Due due) {
        StepBudgets x = new StepBudgets();
        // The CLEAN writes its NUMBER 0 into ROW 0: the NUMBER is the one behind ACT 2, which was LEFT.
        Acts.of(x, 0).set(1, 2).make(0, 1, 1).set(0, 77).set(2, 1).get(3, 0, 1, 2).give(3);
        x.clean(0, 2, 3, 1);
        Acts.of(x, 1).set(1, 1).put(0, 1, 1, 0).set(0, 5).give(1);
        due.is("what a CLEAN sees", x.run(0, 0, 9), 0);
        due.is("what a CLEAN sees: latest(0)", x.latest(0), 77);
        // What it gives is nothing, and so are its NUMBERS.
        x = new StepBudgets();
        Acts.of(x, 0).set(1, 2).give(0);
        x.clean(0, 0, 2, 1);
        Acts.of(x, 1).set(0, 9).give(0);
        x.run(0, 4, 9);
        due.is("what a CLEAN gives", x.latest(0), 4);
        // NUMBER x of a CALL is there ahead of the CLEANS.
        x = new StepBudgets();
        Acts.of(x, 0).set(1, 1).make(0, 1, 1).call(0, 2, 0, 0).set(2, 0).get(3, 0, 1, 2).give(3);
        x.clean(0, 2, 3, 1);
        Acts.of(x, 1).put(0, 1, 1, 0);
        Acts.of(x, 2).set(1, 31).give(1);
        x.run(0, 4, 9);
        due.is("behind a CALL", x.latest(0), 31);
        // The other NUMBERS and ROWS of a CLEAN's FRAME are 0, NONE.
        for (int row = 1; row < 3; row++) {
            x = new StepBudgets();
            Acts.of(x, 0).set(5, 3).make(row, 1, 5);
            x.clean(0, 1, 2, 1);
            Acts.of(x, 1).goIf(5, 2).size(1, row);
            due.is("other ROWS", x.run(0, 4, 9), 2);
            due.is("other ROWS", x.latest(1), 2);
        }
    }

    private static void cleansThatThrow(Due due) {
        // METHOD 0: ACT 0 does something, ACT 1 gives 6. Its GUARD would take all.
        for (int way = 0; way < 4; way++) {
            StepBudgets x = new StepBudgets();
            Acts acts = Acts.of(x, 0);
            if (way == 0) {
                acts.set(1, 6);
            } else if (way == 1) {
                acts.give(1);
            } else if (way == 2) {
                acts.raise(8);
            } else {
                acts.go(1);
            }
            acts.give(1);
            if (way != 2) {
                x.guard(0, 0, 2, 0, 1);
            }
            x.clean(0, 0, 1, 4);
            x.clean(0, 0, 1, 3);
            x.clean(0, 0, 1, 2);
            Acts.of(x, 3).raise(9);
            String call = "a CLEAN that throws, way " + way;
            due.is(call, x.run(0, 0, 9), 2);
            due.latest(call, x, 0, 9, 3, 0, 3, 2, 0, 0, 2);
            due.cleaned(call, x, 0, 2, 0, 2);
            due.cleaned(call, x, 1, 3, 0, 2);
        }
    }

    private static void noMoreBehindOneThatThrows(Due due) {
        // ACT 0 is LEFT for ACT 1, which CLEANS 0 and 3 hold, too: they are not run, also not on the way out.
        StepBudgets x = new StepBudgets();
        Acts.of(x, 0).set(1, 6).give(1);
        x.clean(0, 0, 2, 5);
        x.clean(0, 0, 1, 4);
        x.clean(0, 0, 1, 3);
        x.clean(0, 0, 2, 2);
        Acts.of(x, 3).raise(9);
        due.is("no more behind one that throws", x.run(0, 0, 9), 2);
        due.latest("no more behind one that throws", x, 0, 9, 2, 0, 2, 1, 0, 0, 2);
        due.cleaned("no more behind one that throws", x, 0, 3, 0, 2);
    }

    private static void thrownIntoCaller(Due due) {
        // The caller's GUARD is asked for it, and its NUMBER x stays.
        StepBudgets x = new StepBudgets();
        Acts.of(x, 0).set(1, 4).call(1, 1, 0, 0).reckon(3, 1, 1, 5).give(1);
        x.guard(0, 1, 2, 9, 2);
        Acts.of(x, 1).raise(8);
        x.guard(1, 0, 1, 9, 0);
        x.clean(1, 0, 1, 2);
        Acts.of(x, 2).raise(9);
        due.is("the caller's GUARD", x.run(0, 0, 9), 0);
        due.latest("the caller's GUARD", x, 36, 0, 4, 0, 3, 1, 1, 0, 3);
    }

    private static void cleanTooDeep(Due due) {
        // ROOM in place of KIND 8.
        StepBudgets x = new StepBudgets();
        Acts.of(x, 0).goIf(0, 2).raise(8).set(1, -1).reckon(1, 0, 0, 1).call(2, 0, 0, 0);
        x.clean(0, 1, 2, 1);
        due.is("a CLEAN in FRAME 12", x.run(0, 10, 500), 2);
        due.latest("a CLEAN in FRAME 12", x, 0, 8, 12, 0, 12, 1, 0, 0, 12);
        due.is("a CLEAN in FRAME 13", x.run(0, 11, 500), 2);
        due.latest("a CLEAN in FRAME 13", x, 0, 7, 13, 0, 12, 0, 0, 0, 12);
    }

    private static void guardsOnTheWay(Due due) {
        // ACT 1 throws; the GUARD's ACT 3 is held by the first CLEAN, too: only the second one is run.
        StepBudgets x = new StepBudgets();
        Acts.of(x, 0).set(1, 4).raise(8).give(1).give(5);
        x.guard(0, 1, 2, 0, 3);
        x.clean(0, 1, 4, 1);
        x.clean(0, 0, 2, 2);
        due.is("GUARD and CLEANS", x.run(0, 0, 9), 0);
        due.latest("GUARD and CLEANS", x, 8, 0, 4, 0, 3, 2, 1, 0, 2);
        due.cleaned("on the way to the GUARD", x, 0, 2, 0, 2);
        due.cleaned("on the way out", x, 1, 1, 0, 2);
        // The CLEAN on the way to the GUARD throws: the GUARD's STEP was counted, but it does not go on there.
        Acts.of(x, 2).raise(9);
        due.is("a throw on the way", x.run(0, 0, 9), 2);
        due.latest("a throw on the way", x, 0, 9, 3, 0, 2, 1, 1, 0, 2);
        // What a CLEAN throws and guards itself is nothing to the GUARD's KIND.
        x.guard(2, 0, 1, 9, 1);
        due.is("a throw within a CLEAN", x.run(0, 0, 9), 0);
        due.latest("a throw within a CLEAN", x, 8, 0, 5, 0, 3, 2, 2, 0, 2);
    }

    private static void ownThrowsOfCleans(Due due) {
        StepBudgets x = new StepBudgets();
        Acts.of(x, 0).raise(8);
        x.clean(0, 0, 1, 1);
        Acts.of(x, 1).raise(9).set(1, 5).give(1);
        x.guard(1, 0, 1, 0, 1);
        due.is("a THROW passes a CLEAN", x.run(0, 0, 9), 2);
        due.latest("a THROW passes a CLEAN", x, 0, 8, 3, 0, 2, 1, 1, 0, 2);
        x = new StepBudgets();
        Acts.of(x, 0).call(1, 1, 0, 0).give(1);
        x.clean(0, 0, 1, 2);
        Acts.of(x, 1).set(1, 3).give(1);
        Acts.of(x, 2).set(1, 5).give(1);
        due.is("what a CALL gives passes a CLEAN", x.run(0, 0, 9), 0);
        due.is("what a CALL gives passes a CLEAN", x.latest(0), 3);
    }

    private static void cleansOfCleans(Due due) {
        StepBudgets x = new StepBudgets();
        Acts.of(x, 0).give(0);
        x.clean(0, 0, 1, 0);
        due.is("a METHOD that cleans up itself", x.run(0, 3, 500), 2);
        // 12 FRAMES, each LEFT into the next one; the 13th's STEP, then ROOM all the way out.
        due.latest("a METHOD that cleans up itself", x, 0, 7, 13, 0, 12, 11, 0, 0, 12);
        for (int k = 0; k < 11; k++) {
            due.cleaned("a METHOD that cleans up itself", x, k, 0, 0, k + 2);
        }
    }
}
