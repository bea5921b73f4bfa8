/** Terms: which STEPS are counted, and ahead of what; the 25th THROW. */
public final class StepsTest {
    public static void main(String[] args) {
        Due due = new Due("steps");
        goes(due);
        news(due);
        guardsAndFrames(due);
        tooDeep(due);
        manyThrows(due);
        due.end();
    }

    private static void goes(Due due) {
        StepBudgets x = new StepBudgets();
        Acts.of(x, 0).go(2).go(4).go(1);
        due.is("GO on and back", x.run(0, 0, 2), 0);
        due.is("GO on and back: STEPS", x.latest(2), 2);
        x = new StepBudgets();
        Acts.of(x, 0).goIf(0, 0).give(0);
        due.is("IF that does not go", x.run(0, -4, 1), 0);
        due.is("IF to itself", x.run(0, 1, 100), 1);
        due.is("IF to itself: STEPS", x.latest(2), 100);
        x = new StepBudgets();
        Acts.of(x, 0).goIf(0, 1).give(0);
        due.is("IF to the next ACT", x.run(0, 1, 1), 0);
        due.is("IF to the next ACT: STEPS", x.latest(2), 1);
    }

    private static void news(Due due) {
        int[][] rows = {{0, 1}, {7, 1}, {8, 2}, {15, 2}, {16, 3}, {63, 8}, {64, 9}};
        StepBudgets x = new StepBudgets();
        Acts.of(x, 0).make(0, 2, 0).give(0);
        for (int[] r : rows) {
            due.is("NEW of " + r[0], x.run(0, r[0], 1 + r[1]), 0);
            due.is("NEW of " + r[0] + ": STEPS", x.latest(2), 1 + r[1]);
            due.is("NEW of " + r[0] + " with too few", x.run(0, r[0], r[1]), 1);
            due.is("NEW of " + r[0] + " with too few: all or none", x.latest(2), 1);
        }
        for (int size : new int[] {-1, 65, Integer.MAX_VALUE, Integer.MIN_VALUE}) {
            due.is("NEW of " + size, x.run(0, size, 2), 2);
            due.latest("NEW of " + size, x, 0, size < 0 ? 6 : 7, 2);
            due.is("NEW of " + size + ": its STEP comes ahead", x.run(0, size, 1), 1);
        }
        // FRAME, 17 times round with three rows and a GO, then two rows: the next 9 STEPS would be above 500.
        StepBudgets y = new StepBudgets();
        Acts.of(y, 0).set(1, 64).make(0, 1, 1).make(1, 0, 1).make(2, 2, 1).go(1);
        due.is("many rows", y.run(0, 0, 500), 1);
        due.is("many rows: STEPS", y.latest(2), 1 + 17 * (3 * 9 + 1) + 2 * 9);
        manyRowsInManyRuns(due);
    }

    /** As many rows as a BUDGET and a RESERVE allow, in one run behind the other: the last is as good as the first. */
    private static void manyRowsInManyRuns(Due due) {
        StepBudgets x = new StepBudgets();
        for (int m = 0; m < 2; m++) {
            Acts acts = Acts.of(x, m).set(2, -1).reckon(1, 3, 0, 2);
            for (int i = 0; i < 40; i++) {
                acts.make(0, i % 3, 0);
            }
            acts.size(1, 0).put(0, 0, 3, 1).get(1, 0, 0, 3).go(2);
        }
        x.clean(0, 2, 48, 1);
        x.reserve(100);
        for (int again = 0; again < 30; again++) {
            for (int size : new int[] {1, 7, 15, 63, 64}) {
                int cost = 1 + size / 8;
                due.is("rows of " + size, x.run(0, size, 500), 1);
                due.latest("rows of " + size, x, 0, 0, stepsOf(500, cost), stepsOf(100, cost), 2, 1, 0, 1, 2);
            }
        }
    }

    /** The STEPS counted for a FRAME and 40 rows and a GO, over and over, up to the end. */
    private static int stepsOf(int end, int cost) {
        int steps = 1;
        for (int i = 0; steps + (i % 41 == 40 ? 1 : cost) <= end; i++) {
            steps += i % 41 == 40 ? 1 : cost;
        }
        return steps;
    }

    private static void guardsAndFrames(Due due) {
        StepBudgets x = new StepBudgets();
        Acts.of(x, 0).call(1, 1, 0, 0).give(5);
        Acts.of(x, 1).raise(8);
        x.guard(0, 0, 1, 8, 1);
        due.is("all STEPS", x.run(0, 0, 3), 0);
        due.latest("all STEPS", x, 8, 0, 3, 0, 2, 0, 1, 0, 2);
        due.is("none for the GUARD", x.run(0, 0, 2), 1);
        due.latest("none for the GUARD", x, 0, 0, 2, 0, 2, 0, 0, 0, 2);
        due.is("none for the FRAME", x.run(0, 0, 1), 1);
        due.latest("none for the FRAME", x, 0, 0, 1, 0, 1, 0, 0, 0, 1);
    }

    private static void tooDeep(Due due) {
        StepBudgets x = new StepBudgets();
        Acts.of(x, 0).call(1, 0, 0, 0);
        due.is("13 FRAMES", x.run(0, 0, 500), 2);
        // The STEP of the 13th is counted ahead of what it throws.
        due.latest("13 FRAMES", x, 0, 7, 13, 0, 12, 0, 0, 0, 12);
        due.is("no STEP for the 13th", x.run(0, 0, 12), 1);
        due.latest("no STEP for the 13th", x, 0, 0, 12, 0, 12, 0, 0, 0, 12);
        // 12 FRAMES within each other are no fault.
        StepBudgets y = new StepBudgets();
        Acts.of(y, 0).goIf(0, 2).give(0).set(1, -1).reckon(1, 0, 0, 1).call(2, 0, 0, 0).give(2);
        due.is("12 FRAMES", y.run(0, 11, 12), 0);
        due.latest("12 FRAMES", y, 0, 0, 12, 0, 12, 0, 0, 0, 12);
        due.is("13 FRAMES", y.run(0, 12, 500), 2);
        due.is("13 FRAMES: KIND", y.latest(1), 7);
    }

    /** METHOD 0 does what throws the KIND over and over, under a GUARD, NUMBER 0 times. */
    private static StepBudgets thrower(int kind) {
        StepBudgets x = new StepBudgets();
        Acts acts = Acts.of(x, 0).set(1, -1).set(3, 65).set(4, 2).make(2, 0, 4).make(1, 1, 4);
        switch (kind) {
            case 1: acts.reckon(4, 2, 2, 2); break;
            case 2: acts.size(2, 0); break;
            case 3: acts.put(2, 1, 2, 2); break;
            case 4: acts.copy(1, 2, 2); break;
            case 5: acts.get(2, 2, 0, 3); break;
            case 6: acts.make(0, 0, 1); break;
            case 7: acts.make(0, 0, 3); break;
            default: acts.raise(kind); break;
        }
        acts.reckon(1, 0, 0, 1).goIf(0, 5).give(5);
        x.guard(0, 5, 6, kind, 6);
        return x;
    }

    private static void manyThrows(Due due) {
        for (int kind = 1; kind <= 9; kind++) {
            StepBudgets x = thrower(kind);
            due.is("24 THROWS of " + kind, x.run(0, 24, 500), 0);
            due.latest("24 THROWS of " + kind, x, kind);
            due.is("24 THROWS of " + kind + ": GUARDS", x.latest(6), 24);
            due.is("25 THROWS of " + kind, x.run(0, 25, 500), kind <= 6 ? 1 : 0);
            due.is("25 THROWS of " + kind + ": GUARDS", x.latest(6), kind <= 6 ? 24 : 25);
            int news = kind == 6 ? 25 : 0;
            due.is("25 THROWS of " + kind + ": STEPS", x.latest(2), kind <= 6 ? 3 + 24 + 24 + news : x.latest(2));
        }
        throwsOutOfCalls(due);
        throwsInReserve(due);
    }

    private static void throwsOutOfCalls(Due due) {
        StepBudgets x = new StepBudgets();
        Acts.of(x, 0).set(1, -1).call(2, 1, 0, 0).reckon(1, 0, 0, 1).goIf(0, 1).give(5);
        x.guard(0, 1, 2, 0, 2);
        Acts.of(x, 1).call(2, 2, 0, 0);
        x.clean(1, 0, 1, 3);
        Acts.of(x, 2).reckon(4, 1, 1, 1);
        due.is("24 THROWS through two CALLS", x.run(0, 24, 500), 0);
        due.is("25 THROWS through two CALLS", x.run(0, 25, 500), 1);
        due.is("the last one is cleaned up behind, too", x.latest(5), 25);
        due.is("STEPS in RESERVE", x.latest(3), 1);
    }

    private static void throwsInReserve(Due due) {
        StepBudgets x = new StepBudgets();
        // METHOD 0 throws NUMBER 0 times, then loops; METHOD 1 cleans up with two THROWS of its own.
        Acts.of(x, 0).set(1, -1).reckon(4, 2, 2, 2).reckon(1, 0, 0, 1).goIf(0, 1).go(4);
        x.guard(0, 1, 2, 0, 2);
        x.clean(0, 4, 5, 3);
        x.clean(0, 4, 5, 1);
        Acts.of(x, 1).reckon(4, 2, 2, 2).reckon(5, 2, 2, 2).set(1, 1);
        x.guard(1, 0, 1, 0, 1);
        due.is("24 THROWS in all", x.run(0, 22, 500), 1);
        due.latest("24 THROWS in all", x, 0, 0, 500, 3, 3, 2, 23, 0, 2);
        due.is("25 THROWS in all", x.run(0, 23, 500), 1);
        due.latest("25 THROWS in all", x, 0, 0, 500, 2, 2, 1, 24, 1, 2);
        due.is("26 THROWS in all", x.run(0, 24, 500), 1);
        due.latest("26 THROWS in all", x, 0, 0, 500, 1, 2, 1, 24, 1, 2);
        stoppedByTheLast(due);
    }

    private static void stoppedByTheLast(Due due) {
        StepBudgets x = new StepBudgets();
        Acts.of(x, 0).set(1, -1).reckon(4, 2, 2, 2).reckon(1, 0, 0, 1).goIf(0, 1);
        x.guard(0, 1, 2, 0, 2);
        x.clean(0, 1, 4, 3);
        x.clean(0, 1, 4, 1);
        Acts.of(x, 1).reckon(4, 2, 2, 2);
        // FRAME, 24 GUARDS, 24 GOs; a THROW of what cleans up behind the 25th is one more: all ends.
        due.is("the 25th stops", x.run(0, 25, 500), 1);
        due.latest("the 25th stops", x, 0, 0, 49, 1, 2, 1, 24, 1, 2);
        x.clear(1);
        Acts.of(x, 1).raise(8);
        due.is("the 25th stops, KIND 8 behind it", x.run(0, 25, 500), 1);
        due.latest("the 25th stops, KIND 8 behind it", x, 0, 0, 49, 2, 3, 2, 24, 0, 2);
    }
}
