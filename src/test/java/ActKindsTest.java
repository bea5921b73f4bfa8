/** Terms: what the ACTS of each kind do, and the KINDS that they throw. */
public final class ActKindsTest {
    private static final int MIN = Integer.MIN_VALUE;
    private static final int MAX = Integer.MAX_VALUE;

    public static void main(String[] args) {
        Due due = new Due("kinds of ACTS");
        reckoning(due);
        going(due);
        lanes(due);
        rowFaults(due);
        copies(due);
        calls(due);
        sharedRows(due);
        ends(due);
        due.end();
    }

    private static void reckoning(Due due) {
        int[][] rows = {
            {1, 5, 7, 12}, {1, MAX, 1, MIN}, {2, 5, 7, -2}, {2, MIN, 1, MAX}, {3, -5, 7, -35}, {3, 65536, 65536, 0},
            {3, MAX, 2, -2}, {4, 7, 2, 3}, {4, -7, 2, -3}, {4, 7, -2, -3}, {4, MIN, -1, MIN}, {4, 0, 5, 0},
            {5, 7, 2, 1}, {5, -7, 2, -1}, {5, 7, -2, 1}, {5, MIN, -1, 0},
        };
        for (int[] r : rows) {
            StepBudgets x = new StepBudgets();
            Acts.of(x, 0).set(1, r[1]).set(2, r[2]).reckon(r[0], 3, 1, 2).give(3);
            String call = "kind " + r[0] + " of " + r[1] + ", " + r[2];
            due.is(call, x.run(0, 0, 9), 0);
            due.latest(call, x, r[3], 0, 1, 0, 1, 0, 0, 0, 1);
        }
        for (int kind = 4; kind <= 5; kind++) {
            StepBudgets x = new StepBudgets();
            Acts.of(x, 0).set(1, 3).reckon(kind, 1, 1, 2).give(1);
            due.is("kind " + kind + " by 0", x.run(0, 0, 9), 2);
            due.latest("kind " + kind + " by 0", x, 0, 1, 1, 0, 1, 0, 0, 0, 1);
        }
    }

    private static void going(Due due) {
        int[][] rows = {{1, 5}, {0, 6}, {-1, 6}, {MAX, 5}, {MIN, 6}};
        for (int[] r : rows) {
            StepBudgets x = new StepBudgets();
            Acts.of(x, 0).set(1, 5).goIf(0, 3).set(1, 6).give(1);
            x.run(0, r[0], 9);
            due.latest("IF " + r[0], x, r[1], 0, 1);
        }
        for (int to = 3; to <= 48; to += 45) {
            StepBudgets x = new StepBudgets();
            Acts.of(x, 0).set(1, 5).go(to).give(1);
            due.is("GO to no ACT", x.run(0, 0, 1), 0);
            due.latest("GO to no ACT", x, 0, 0, 1);
        }
    }

    private static void lanes(Due due) {
        int[][] rows = {
            {0, 127, 127}, {0, 128, -128}, {0, 255, -1}, {0, 256, 0}, {0, MIN, 0}, {0, -129, 127},
            {1, 128, 128}, {1, MIN, MIN}, {1, MAX, MAX}, {2, 128, 128}, {2, MIN, MIN}, {2, -1, -1},
        };
        for (int[] r : rows) {
            StepBudgets x = new StepBudgets();
            Acts.of(x, 0).set(1, 3).make(2, r[0], 1).set(2, 2).put(2, r[0], 2, 0).get(3, 2, r[0], 2).give(3);
            x.run(0, r[1], 9);
            due.latest("LANE " + r[0] + " has " + r[1], x, r[2], 0, 2);
        }
        StepBudgets x = new StepBudgets();
        Acts.of(x, 0).set(1, 64).make(0, 2, 1).set(2, 63).get(3, 0, 2, 2).size(4, 0).reckon(1, 3, 3, 4).give(3);
        x.run(0, 0, 10);
        due.latest("a new row has 0 and its size", x, 64, 0, 10);
        // The rows of the runs before leave nothing behind in those of a later one.
        StepBudgets y = new StepBudgets();
        Acts.of(y, 0).set(1, 2).make(0, 1, 1).set(2, 1).get(3, 0, 1, 2).put(0, 1, 2, 1).make(0, 1, 1).get(4, 0, 1, 2)
            .reckon(1, 3, 3, 4).give(3);
        for (int i = 0; i < 3; i++) {
            y.run(0, 0, 9);
            due.latest("rows are new", y, 0, 0, 3);
        }
    }

    private static void throwsKind(Due due, String call, StepBudgets x, int kind) {
        due.is(call, x.run(0, 0, 500), 2);
        due.is(call + ": latest(0)", x.latest(0), 0);
        due.is(call + ": latest(1)", x.latest(1), kind);
    }

    /** An object whose METHOD 0 has ROW 0 of LANE 1 with 3 places, then NUMBER 2 for what follows. */
    private static StepBudgets withRow(int number) {
        StepBudgets x = new StepBudgets();
        Acts.of(x, 0).set(1, 3).make(0, 1, 1).set(2, number);
        return x;
    }

    private static void rowFaults(Due due) {
        StepBudgets x = withRow(0);
        Acts.of(x, 0).put(1, 1, 2, 2);
        throwsKind(due, "PUT into NONE", x, 2);
        x = withRow(0);
        Acts.of(x, 0).get(3, 1, 1, 2);
        throwsKind(due, "GET of NONE", x, 2);
        x = withRow(0);
        Acts.of(x, 0).size(3, 1);
        throwsKind(due, "SIZE of NONE", x, 2);
        for (int lane = 0; lane < 3; lane += 2) {
            x = withRow(9);
            Acts.of(x, 0).put(0, lane, 2, 2);
            throwsKind(due, "PUT into another LANE, no such place", x, 3);
            x = withRow(-1);
            Acts.of(x, 0).get(3, 0, lane, 2);
            throwsKind(due, "GET of another LANE, no such place", x, 3);
        }
        for (int place : new int[] {-1, 3, MIN, MAX}) {
            x = withRow(place);
            Acts.of(x, 0).put(0, 1, 2, 2);
            throwsKind(due, "PUT at " + place, x, 5);
            x = withRow(place);
            Acts.of(x, 0).get(3, 0, 1, 2);
            throwsKind(due, "GET at " + place, x, 5);
        }
        for (int size : new int[] {-1, MIN, 65, MAX}) {
            x = withRow(size);
            Acts.of(x, 0).make(0, 0, 2);
            throwsKind(due, "NEW of " + size, x, size < 0 ? 6 : 7);
            due.is("NEW of " + size + ": STEPS", x.latest(2), 3);
        }
        x = withRow(0);
        Acts.of(x, 0).make(0, 0, 2).size(3, 0).put(0, 0, 2, 2);
        throwsKind(due, "a row of no places", x, 5);
        for (int kind = 8; kind <= 9; kind++) {
            x = withRow(0);
            Acts.of(x, 0).raise(kind);
            throwsKind(due, "THROW", x, kind);
        }
    }

    private static void copies(Due due) {
        // ROW 0 is 20, 30, 0; two places of it come to ROW 1, which has two: it gives 20 * 30.
        StepBudgets x = withRow(2);
        Acts.of(x, 0).set(4, 20).put(0, 1, 3, 4).set(4, 30).set(5, 1).put(0, 1, 5, 4).make(1, 1, 2).copy(0, 1, 2)
            .get(4, 1, 1, 3).get(5, 1, 1, 5).reckon(3, 4, 4, 5).give(4);
        due.is("COPY", x.run(0, 0, 9), 0);
        due.is("COPY: latest(0)", x.latest(0), 600);
        int[][] rows = {
            // NUMBER of places, LANE and size of ROW 1 (size -9: it stays NONE), KIND
            {-1, 0, -9, 2}, {9, 1, -9, 2}, {9, 0, 2, 4}, {-1, 2, 2, 4}, {0, 2, 0, 4}, {-1, 1, 2, 5}, {3, 1, 2, 5},
            {4, 1, 9, 5}, {MAX, 1, 9, 5}, {MIN, 1, 9, 5},
        };
        for (int[] r : rows) {
            for (int turned = 0; turned < 2; turned++) {
                x = withRow(r[0]);
                if (r[2] >= 0) {
                    Acts.of(x, 0).set(3, r[2]).make(1, r[1], 3);
                }
                Acts.of(x, 0).copy(turned, 1 - turned, 2);
                throwsKind(due, "COPY of " + r[0] + " with LANE " + r[1] + " size " + r[2], x, r[3]);
            }
        }
        x = withRow(3);
        Acts.of(x, 0).set(3, 3).make(1, 1, 3).copy(0, 1, 2).copy(0, 0, 2).give(2);
        due.is("COPY of all", x.run(0, 0, 9), 0);
        x = withRow(0);
        Acts.of(x, 0).make(1, 1, 2).copy(0, 1, 2).copy(1, 0, 2).give(1);
        due.is("COPY of none", x.run(0, 0, 9), 0);
    }

    private static void calls(Due due) {
        StepBudgets x = new StepBudgets();
        Acts.of(x, 0).set(1, 4).set(3, 6).call(2, 5, 0, 1).give(2);
        // All other NUMBERS of the callee are 0: 4 * 4 + 0.
        Acts.of(x, 5).reckon(3, 2, 0, 0).reckon(1, 2, 2, 3).set(0, 99).set(1, 99).give(2);
        due.is("CALL", x.run(0, 0, 9), 0);
        due.latest("CALL", x, 16, 0, 2, 0, 2, 0, 0, 0, 2);
        x = new StepBudgets();
        Acts.of(x, 0).set(1, 4).call(1, 5, 0, 1).give(1);
        Acts.of(x, 5).set(0, 3);
        due.is("CALL of one that ends", x.run(0, 0, 9), 0);
        due.latest("CALL of one that ends", x, 0, 0, 2);
        x = new StepBudgets();
        Acts.of(x, 0).set(1, 4).call(1, 5, 0, 1).give(1);
        Acts.of(x, 5).raise(8);
        x.guard(0, 1, 2, 8, 2);
        due.is("CALL of one that throws", x.run(0, 0, 9), 0);
        due.latest("CALL of one that throws", x, 4, 0, 3, 0, 2, 0, 1, 0, 2);
    }

    private static void sharedRows(Due due) {
        StepBudgets x = new StepBudgets();
        Acts.of(x, 0).set(1, 2).make(2, 0, 1).call(3, 1, 2, 1).set(4, 1).get(3, 2, 0, 4).give(3);
        Acts.of(x, 1).set(1, 1).set(2, 42).put(0, 0, 1, 2);
        due.is("a ROW handed on", x.run(0, 0, 9), 0);
        due.is("a ROW handed on: latest(0)", x.latest(0), 42);
        x = new StepBudgets();
        Acts.of(x, 0).set(1, 2).make(0, 0, 1).call(3, 1, 0, 1).size(3, 0).give(3);
        Acts.of(x, 1).set(1, 7).make(0, 2, 1);
        due.is("a ROW made anew elsewhere", x.run(0, 0, 9), 0);
        due.is("a ROW made anew elsewhere: latest(0)", x.latest(0), 2);
        x = new StepBudgets();
        Acts.of(x, 0).set(1, 2).make(1, 0, 1).make(2, 0, 1).call(3, 1, 0, 1);
        Acts.of(x, 1).size(1, 0);
        throwsKind(due, "ROW 0 handed on is NONE", x, 2);
        for (int row = 1; row < 3; row++) {
            x = new StepBudgets();
            Acts.of(x, 0).set(1, 2).make(0, 0, 1).make(1, 0, 1).make(2, 0, 1).call(3, 1, 0, 1);
            Acts.of(x, 1).size(1, row);
            throwsKind(due, "ROW " + row + " of a callee is NONE", x, 2);
        }
    }

    private static void ends(Due due) {
        StepBudgets x = new StepBudgets();
        Acts.of(x, 0).set(1, 4);
        due.is("a METHOD that ends", x.run(0, 7, 1), 0);
        due.is("a METHOD that ends: latest(0)", x.latest(0), 0);
        x = new StepBudgets();
        Acts.of(x, 0).give(0).raise(8);
        due.is("GIVE", x.run(0, MIN, 1), 0);
        due.is("GIVE: latest(0)", x.latest(0), MIN);
    }
}
