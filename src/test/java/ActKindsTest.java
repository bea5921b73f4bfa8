/** Terms: what the ACTS of each kind do, with ordinary numbers. The edges are in RunEdgesTest. */
public final class ActKindsTest {
    public static void main(String[] args) {
        Due due = new Due("kinds of ACTS");
        reckoning(due);
        going(due);
        rowsOfEachLane(due);
        rowsAreNew(due);
        manyRowsInManyRuns(due);
        copies(due);
        calls(due);
        callsThatEndOrThrow(due);
        rowHandedOn(due);
        rowMadeAnewElsewhere(due);
        rowsOfCalleeAreNone(due);
        gives(due);
        numbersThatAreNotNamed(due);
        due.end();
    }

    private static void reckoning(Due due) {
        int[][] rows = {
            // kind, y, z, what it gives
            {1, 5, 7, 12}, {1, -5, 3, -2}, {2, 5, 7, -2}, {2, 9, 4, 5}, {3, -5, 7, -35}, {3, 6, 7, 42},
            {4, 7, 2, 3}, {4, 0, 5, 0}, {4, 42, 6, 7}, {5, 7, 2, 1}, {5, 42, 6, 0}, {5, 3, 10, 3},
        };
        for (int[] r : rows) {
            StepBudgets x = new StepBudgets();
            Acts.of(x, 0).set(1, r[1]).set(2, r[2]).reckon(r[0], 3, 1, 2).give(3);
            String call = "kind " + r[0] + " of " + r[1] + ", " + r[2];
            due.is(call, x.run(0, 0, 9), 0);
            due.latest(call, x, r[3], 0, 1, 0, 1, 0, 0, 0, 1);
        }
    }

    /** 1 + 2 + .. + NUMBER 0, by a loop with GO and IF. */
    private static void going(Due due) {
        StepBudgets x = new StepBudgets();
        Acts.of(x, 0).set(1, -1).goIf(0, 3).give(2).reckon(1, 2, 2, 0).reckon(1, 0, 0, 1).go(1);
        for (int n = 0; n < 20; n++) {
            due.is("sum up to " + n, x.run(0, n, 500), 0);
            due.latest("sum up to " + n, x, n * (n + 1) / 2, 0, 1 + n, 0, 1, 0, 0, 0, 1);
        }
    }

    private static void rowsOfEachLane(Due due) {
        for (int lane = 0; lane < 3; lane++) {
            for (int row = 0; row < 3; row++) {
                // Places 2 and 0 are 40, 2; the size is 3.
                StepBudgets x = new StepBudgets();
                Acts.of(x, 0).set(1, 3).make(row, lane, 1).set(2, 2).set(3, 40).put(row, lane, 2, 3).put(row, lane, 4, 2)
                    .get(3, row, lane, 2).get(5, row, lane, 4).reckon(3, 3, 3, 5).size(4, row).reckon(1, 3, 3, 4).give(3);
                due.is("LANE " + lane, x.run(0, 0, 9), 0);
                due.latest("LANE " + lane, x, 40 * 2 + 3, 0, 2, 0, 1, 0, 0, 0, 1);
            }
        }
    }

    /** All places of a new row are 0, whatever the rows of this run or of one before had there. */
    private static void rowsAreNew(Due due) {
        StepBudgets x = new StepBudgets();
        Acts.of(x, 0).set(1, 2).make(0, 1, 1).set(2, 1).get(3, 0, 1, 2).put(0, 1, 2, 1).make(0, 1, 1).get(4, 0, 1, 2)
            .reckon(1, 3, 3, 4).give(3);
        for (int i = 0; i < 3; i++) {
            due.is("rows are new", x.run(0, 0, 9), 0);
            due.latest("rows are new", x, 0, 0, 3);
        }
    }

    /** As many rows as a BUDGET and a RESERVE allow, in one run behind the other: the last is as good as the first. */
    private static void manyRowsInManyRuns(Due due) {
        StepBudgets x = new StepBudgets();
        for (int m = 0; m < 2; m++) {
            Acts acts = Acts.of(x, m).set(2, -1).reckon(1, 3, 0, 2);
            for (int i = 0; i < 40; i++) {
                acts.make(0, i % 3, 0);
            }
            acts.size(1, 0).put(0, 0, 3, 1).get(1, 0, 0, 3).go(2);
        }
        x.clean(0, 2, 48, 1);
        x.reserve(100);
        for (int again = 0; again < 8; again++) {
            for (int size : new int[] {1, 7, 15, 63, 64}) {
                int cost = 1 + size / 8;
                due.is("rows of " + size, x.run(0, size, 500), 1);
                due.latest("rows of " + size, x, 0, 0, stepsOf(500, cost), stepsOf(100, cost), 2, 1, 0, 1, 2);
            }
        }
    }

    /** The STEPS counted for a FRAME and 40 rows and a GO, over and over, up to the end. */
    private static int stepsOf(int end, int cost) {
        int steps = 1;
        for (int i = 0; steps + (i % 41 == 40 ? 1 : cost) <= end; i++) {
            steps += i % 41 == 40 ? 1 : cost;
        }
        return steps;
    }

    private static void copies(Due due) {
        for (int lane = 0; lane < 3; lane++) {
            // ROW 0 is 20, 3, 5; two places of it come to ROW 1, which has four; a later PUT is to ROW 0 alone.
            StepBudgets x = new StepBudgets();
            Acts.of(x, 0).set(1, 3).make(0, lane, 1).set(2, 20).put(0, lane, 3, 2).set(3, 1).put(0, lane, 3, 1).set(3, 2)
                .set(2, 5).put(0, lane, 3, 2).set(4, 4).make(1, lane, 4).copy(0, 1, 3).set(4, 0).put(0, lane, 4, 4)
                .get(1, 1, lane, 4).set(4, 1).get(2, 1, lane, 4).reckon(3, 1, 1, 2).get(2, 1, lane, 3)
                .reckon(1, 1, 1, 2).give(1);
            due.is("COPY", x.run(0, 0, 9), 0);
            due.is("COPY: it gave", x.latest(0), 20 * 3 + 0);
        }
    }

    private static void calls(Due due) {
        StepBudgets x = new StepBudgets();
        Acts.of(x, 0).set(1, 4).set(3, 6).call(2, 5, 0, 1).give(2);
        // All other NUMBERS of the callee are 0: 4 * 4 + 0. What it SETs is its own.
        Acts.of(x, 5).reckon(3, 2, 0, 0).reckon(1, 2, 2, 3).set(0, 99).set(1, 99).give(2);
        due.is("CALL", x.run(0, 0, 9), 0);
        due.latest("CALL", x, 16, 0, 2, 0, 2, 0, 0, 0, 2);
        // NUMBER 0 times the NUMBERS below it, each by a CALL.
        StepBudgets y = new StepBudgets();
        Acts.of(y, 0).goIf(0, 3).set(1, 1).give(1).set(1, 1).reckon(2, 2, 0, 1).call(3, 0, 0, 2).reckon(3, 0, 0, 3).give(0);
        due.is("6 * 5 * 4 * 3 * 2", y.run(0, 6, 9), 0);
        due.latest("6 * 5 * 4 * 3 * 2", y, 720, 0, 7, 0, 7, 0, 0, 0, 7);
    }

    private static void callsThatEndOrThrow(Due due) {
        StepBudgets x = new StepBudgets();
        Acts.of(x, 0).set(1, 4).call(1, 5, 0, 1).give(1);
        Acts.of(x, 5).set(0, 3);
        due.is("CALL of one that ends", x.run(0, 0, 9), 0);
        due.latest("CALL of one that ends", x, 0, 0, 2);
        x = new StepBudgets();
        Acts.of(x, 0).set(1, 4).call(1, 5, 0, 1).give(1);
        Acts.of(x, 5).raise(8);
        x.guard(0, 1, 2, 8, 2);
        due.is("CALL of one that throws", x.run(0, 0, 9), 0);
        due.latest("CALL of one that throws", x, 4, 0, 3, 0, 2, 0, 1, 0, 2);
    }

    private static void rowHandedOn(Due due) {
        for (int row = 0; row < 3; row++) {
            StepBudgets x = new StepBudgets();
            Acts.of(x, 0).set(1, 2).make(row, 0, 1).call(3, 1, row, 1).set(4, 1).get(3, row, 0, 4).give(3);
            Acts.of(x, 1).set(1, 1).set(2, 42).put(0, 0, 1, 2);
            due.is("ROW " + row + " handed on", x.run(0, 0, 9), 0);
            due.is("ROW " + row + " handed on: it gave", x.latest(0), 42);
        }
    }

    private static void rowMadeAnewElsewhere(Due due) {
        StepBudgets x = new StepBudgets();
        Acts.of(x, 0).set(1, 2).make(0, 0, 1).call(3, 1, 0, 1).size(3, 0).give(3);
        Acts.of(x, 1).set(1, 7).make(0, 2, 1);
        due.is("a ROW made anew elsewhere", x.run(0, 0, 9), 0);
        due.is("a ROW made anew elsewhere: it gave", x.latest(0), 2);
    }

    private static void rowsOfCalleeAreNone(Due due) {
        // ROW 0 of the callee is what is handed on: here NONE; its ROWS 1, 2 are NONE, whatever the caller has.
        for (int row = 0; row < 3; row++) {
            StepBudgets x = new StepBudgets();
            Acts acts = Acts.of(x, 0).set(1, 2).make(1, 0, 1).make(2, 0, 1);
            if (row > 0) {
                acts.make(0, 0, 1);
            }
            acts.call(3, 1, 0, 1);
            Acts.of(x, 1).size(1, row);
            due.is("ROW " + row + " of a callee", x.run(0, 0, 9), 2);
            due.is("ROW " + row + " of a callee: KIND", x.latest(1), 2);
        }
    }

    private static void gives(Due due) {
        for (int number = 0; number < 6; number++) {
            StepBudgets x = new StepBudgets();
            Acts.of(x, 0).set(number, 70 + number).give(number).raise(8);
            due.is("GIVE", x.run(0, 3, 1), 0);
            due.is("GIVE: it gave", x.latest(0), 70 + number);
        }
    }

    /** What a kind does not name is not looked at in a run, either: here it is no NUMBER, ROW, LANE or METHOD. */
    private static void numbersThatAreNotNamed(Due due) {
        for (int n : new int[] {-1, 6, 49, Integer.MIN_VALUE, Integer.MAX_VALUE}) {
            StepBudgets x = new StepBudgets();
            int[][] acts = {
                // NUMBERS 1, 2 are 3, 3 + 3 = 6, 6 - 3 = 3, 3 * 3 = 9, 9 / 3 = 3, 3 % 3 = 0.
                {0, 1, 3, n, n}, {1, 2, 1, 1, n}, {2, 2, 2, 1, n}, {3, 2, 2, 1, n}, {4, 2, 2, 1, n}, {5, 2, 2, 1, n},
                {6, n, 7, n, n}, {7, 1, 8, n, n}, {8, 0, 0, 1, n}, {11, 3, 0, n, n}, {12, 0, 0, 1, n},
                {15, n, 9, n, n}, {14, 3, n, n, n},
            };
            for (int i = 0; i < acts.length; i++) {
                int[] act = acts[i];
                due.is("an ACT with " + n, x.act(0, act[0], act[1], act[2], act[3], act[4]), i);
            }
            x.guard(0, 11, 12, 9, 12);
            due.is("ACTS with " + n, x.run(0, 0, 9), 0);
            due.latest("ACTS with " + n, x, 3, 0, 3, 0, 1, 0, 1, 0, 1);
        }
    }
}
