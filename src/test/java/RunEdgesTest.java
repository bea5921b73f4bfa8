/** Promise 7 with the edges that the terms name: each has a test of its own. */
public final class RunEdgesTest {
    private static final int MIN = Integer.MIN_VALUE;
    private static final int MAX = Integer.MAX_VALUE;

    public static void main(String[] args) {
        Due due = new Due("edges of runs");
        reckoningGoesRound(due);
        divisionIsCutOffAndGoesRound(due);
        divisionByZeroThrowsArithmetic(due);
        ifGoesAboveZeroAlone(due);
        behindTheLastActIsTheEnd(due);
        goToNoActIsTheEnd(due);
        lastActOfFullMethod(due);
        lastActOfFullMethodIsHeld(due);
        rowOfNoPlaces(due);
        rowOfMostPlaces(due);
        rowBelowNoPlaces(due);
        rowOfTooManyPlaces(due);
        placesBeyondRow(due);
        castsOfLanes(due);
        copyOfNoneAndOfAll(due);
        copyOfTooMany(due);
        leastKindOfAnAct(due);
        rowThatIsNone(due);
        whatThrowsLeavesAllAsItWas(due);
        twelveFramesAndThirteen(due);
        roomUnderGuards(due);
        due.end();
    }

    /** The run of METHOD 0 with this NUMBER 0 gives a value. */
    private static void gives(Due due, String call, StepBudgets x, int number, int value) {
        due.is(call, x.run(0, number, 500), 0);
        due.is(call + ": it gave", x.latest(0), value);
        due.is(call + ": it threw nothing", x.latest(1), 0);
    }

    /** The run of METHOD 0 with this NUMBER 0 throws a KIND. */
    private static void raises(Due due, String call, StepBudgets x, int number, int kind) {
        due.is(call, x.run(0, number, 500), 2);
        due.is(call + ": it gave nothing", x.latest(0), 0);
        due.is(call + ": KIND", x.latest(1), kind);
    }

    /** METHOD 0 gives its NUMBER 0 and another number, reckoned by an ACT of this kind. */
    private static StepBudgets reckoner(int kind, int other) {
        StepBudgets x = new StepBudgets();
        Acts.of(x, 0).set(1, other).reckon(kind, 2, 0, 1).give(2);
        return x;
    }

    private static void reckoningGoesRound(Due due) {
        gives(due, "MAX + 1", reckoner(1, 1), MAX, MIN);
        gives(due, "MIN + MIN", reckoner(1, MIN), MIN, 0);
        gives(due, "MIN - 1", reckoner(2, 1), MIN, MAX);
        gives(due, "0 - MIN", reckoner(2, MIN), 0, MIN);
        gives(due, "MAX * MAX", reckoner(3, MAX), MAX, 1);
        gives(due, "MIN * -1", reckoner(3, -1), MIN, MIN);
        gives(due, "65536 * 65536", reckoner(3, 65536), 65536, 0);
    }

    private static void divisionIsCutOffAndGoesRound(Due due) {
        gives(due, "7 / -2", reckoner(4, -2), 7, -3);
        gives(due, "-7 / 2", reckoner(4, 2), -7, -3);
        gives(due, "-1 / 2", reckoner(4, 2), -1, 0);
        gives(due, "MIN / -1", reckoner(4, -1), MIN, MIN);
        gives(due, "7 % -2", reckoner(5, -2), 7, 1);
        gives(due, "-7 % 2", reckoner(5, 2), -7, -1);
        gives(due, "MIN % -1", reckoner(5, -1), MIN, 0);
    }

    private static void divisionByZeroThrowsArithmetic(Due due) {
        for (int number : new int[] {0, 1, -1, MIN, MAX}) {
            raises(due, number + " / 0", reckoner(4, 0), number, 1);
            raises(due, number + " % 0", reckoner(5, 0), number, 1);
        }
    }

    private static void ifGoesAboveZeroAlone(Due due) {
        StepBudgets x = new StepBudgets();
        Acts.of(x, 0).set(1, 5).goIf(0, 3).set(1, 6).give(1);
        gives(due, "IF 1", x, 1, 5);
        gives(due, "IF MAX", x, MAX, 5);
        gives(due, "IF 0", x, 0, 6);
        gives(due, "IF -1", x, -1, 6);
        gives(due, "IF MIN", x, MIN, 6);
    }

    private static void behindTheLastActIsTheEnd(Due due) {
        StepBudgets x = new StepBudgets();
        gives(due, "no ACTS", x, 9, 0);
        Acts.of(x, 0).set(1, 4);
        gives(due, "one ACT", x, 9, 0);
        // The end is behind the ACTS that there are when it is run.
        Acts.of(x, 0).give(1);
        gives(due, "two ACTS", x, 9, 4);
    }

    private static void goToNoActIsTheEnd(Due due) {
        for (int to : new int[] {3, 4, 47, 48}) {
            StepBudgets x = new StepBudgets();
            Acts.of(x, 0).set(1, 4).go(to).give(1);
            gives(due, "GO " + to + " of three ACTS", x, 9, 0);
            due.is("GO " + to + ": STEPS", x.latest(2), 1);
            StepBudgets y = new StepBudgets();
            Acts.of(y, 0).set(1, 4).goIf(0, to).give(1);
            gives(due, "IF to " + to + " of three ACTS", y, 9, 0);
            gives(due, "IF to " + to + " that does not go", y, 0, 4);
        }
    }

    /** METHOD 0 has 48 ACTS: GO to one of them, SETs of NUMBER 1 to 1 .. 46, and one ACT more. */
    private static Acts fullBut(StepBudgets x, int to) {
        Acts acts = Acts.of(x, 0).go(to);
        for (int i = 1; i <= 46; i++) {
            acts.set(1, i);
        }
        return acts;
    }

    private static void lastActOfFullMethod(Due due) {
        int[][] rows = {{1, 46}, {46, 46}, {47, 0}, {48, 0}};
        for (int[] r : rows) {
            StepBudgets x = new StepBudgets();
            fullBut(x, r[0]).give(1);
            gives(due, "48 ACTS, GO " + r[0], x, 0, r[1]);
        }
        StepBudgets x = new StepBudgets();
        fullBut(x, 47).raise(9);
        raises(due, "48 ACTS, GO to the last", x, 0, 9);
        x = new StepBudgets();
        fullBut(x, 48).raise(9);
        gives(due, "48 ACTS, GO behind the last", x, 0, 0);
        x = new StepBudgets();
        fullBut(x, 1).go(47);
        due.is("ACT 47 goes to itself", x.run(0, 0, 500), 1);
    }

    private static void lastActOfFullMethodIsHeld(Due due) {
        StepBudgets x = new StepBudgets();
        fullBut(x, 47).raise(9);
        x.clean(0, 47, 48, 1);
        x.guard(0, 46, 47, 0, 1);
        raises(due, "ACT 47 and a CLEAN", x, 0, 9);
        due.is("ACT 47 and a CLEAN: CLEANS", x.latest(5), 1);
        x.guard(0, 47, 48, 9, 48);
        gives(due, "ACT 47 and a GUARD", x, 0, 0);
        due.latest("ACT 47 and a GUARD", x, 0, 0, 3, 0, 2, 1, 1, 0, 2);
    }

    /** METHOD 0 has ROW 0 of a LANE and NUMBER 0 places; its NUMBER 1 is another number. */
    private static StepBudgets withRow(int lane, int other) {
        StepBudgets x = new StepBudgets();
        Acts.of(x, 0).make(0, lane, 0).set(1, other);
        return x;
    }

    private static void rowOfNoPlaces(Due due) {
        for (int lane = 0; lane < 3; lane++) {
            StepBudgets x = withRow(lane, 0);
            Acts.of(x, 0).size(2, 0).reckon(1, 2, 2, 0).give(2);
            gives(due, "SIZE of no places", x, 0, 0);
            due.is("NEW of no places: STEPS", x.latest(2), 2);
            x = withRow(lane, 0);
            Acts.of(x, 0).get(2, 0, lane, 1);
            raises(due, "GET of no places", x, 0, 5);
            x = withRow(lane, 0);
            Acts.of(x, 0).put(0, lane, 1, 1);
            raises(due, "PUT to no places", x, 0, 5);
        }
    }

    private static void rowOfMostPlaces(Due due) {
        for (int lane = 0; lane < 3; lane++) {
            StepBudgets x = withRow(lane, 63);
            Acts.of(x, 0).size(2, 0).get(3, 0, lane, 1).put(0, lane, 1, 1).get(4, 0, lane, 1).reckon(1, 2, 2, 3)
                .reckon(1, 2, 2, 4).give(2);
            gives(due, "64 places", x, 64, 64 + 0 + 63);
            due.is("NEW of 64 places: STEPS", x.latest(2), 10);
        }
    }

    private static void rowBelowNoPlaces(Due due) {
        StepBudgets x = withRow(1, 0);
        for (int size : new int[] {-1, -64, MIN}) {
            raises(due, "NEW of " + size, x, size, 6);
            due.is("NEW of " + size + ": STEPS", x.latest(2), 2);
        }
    }

    private static void rowOfTooManyPlaces(Due due) {
        StepBudgets x = withRow(1, 0);
        for (int size : new int[] {65, 72, 4000, MAX}) {
            raises(due, "NEW of " + size, x, size, 7);
            due.is("NEW of " + size + ": STEPS", x.latest(2), 2);
        }
    }

    private static void placesBeyondRow(Due due) {
        for (int size : new int[] {1, 3, 64}) {
            for (int place : new int[] {-1, size, MIN, MAX}) {
                for (int lane = 0; lane < 3; lane++) {
                    StepBudgets x = withRow(lane, place);
                    Acts.of(x, 0).get(2, 0, lane, 1);
                    raises(due, "GET at " + place + " of " + size, x, size, 5);
                    x = withRow(lane, place);
                    Acts.of(x, 0).put(0, lane, 1, 1);
                    raises(due, "PUT at " + place + " of " + size, x, size, 5);
                }
            }
        }
    }

    private static void castsOfLanes(Due due) {
        int[][] rows = {
            {0, 127, 127}, {0, 128, -128}, {0, -128, -128}, {0, -129, 127}, {0, 256, 0}, {0, MAX, -1}, {0, MIN, 0},
            {1, MAX, MAX}, {1, MIN, MIN}, {2, MAX, MAX}, {2, MIN, MIN}, {2, -1, -1},
        };
        for (int[] r : rows) {
            StepBudgets x = withRow(r[0], r[1]);
            Acts.of(x, 0).put(0, r[0], 2, 1).get(3, 0, r[0], 2).give(3);
            gives(due, "LANE " + r[0] + " takes " + r[1], x, 1, r[2]);
        }
    }

    /** Behind withRow: ROW 1 is of a LANE and has so many places; NUMBER 1 places come to it. */
    private static Acts copyTo(StepBudgets x, int lane, int places) {
        return Acts.of(x, 0).set(2, places).make(1, lane, 2).copy(0, 1, 1);
    }

    private static void copyOfNoneAndOfAll(Due due) {
        int[][] rows = {{0, 0, 0}, {0, 0, 5}, {5, 0, 0}, {5, 5, 5}, {5, 3, 3}, {3, 3, 5}, {64, 64, 64}};
        for (int[] r : rows) {
            StepBudgets x = withRow(2, r[1]);
            copyTo(x, 2, r[2]).give(1);
            gives(due, "COPY of " + r[1] + " from " + r[0] + " to " + r[2], x, r[0], r[1]);
        }
        // Two of three places come: 7, 8 are there, and behind them is what was there.
        StepBudgets x = withRow(1, 2);
        Acts.of(x, 0).set(3, 7).put(0, 1, 4, 3).set(4, 1).set(3, 8).put(0, 1, 4, 3).make(1, 1, 0).put(1, 1, 1, 3)
            .put(0, 1, 1, 1).copy(0, 1, 1).set(3, 0).get(3, 1, 1, 3).get(4, 1, 1, 4).reckon(3, 3, 3, 4).get(4, 1, 1, 1)
            .reckon(3, 3, 3, 4).give(3);
        gives(due, "what COPY leaves", x, 3, 7 * 8 * 8);
    }

    private static void copyOfTooMany(Due due) {
        int[][] rows = {{5, -1, 5}, {5, MIN, 5}, {5, 6, 6}, {6, 6, 5}, {0, 1, 1}, {1, 1, 0}, {64, 65, 64}, {5, MAX, 5}};
        for (int[] r : rows) {
            StepBudgets x = withRow(0, r[1]);
            copyTo(x, 0, r[2]);
            raises(due, "COPY of " + r[1] + " from " + r[0] + " to " + r[2], x, r[0], 5);
        }
    }

    private static void leastKindOfAnAct(Due due) {
        StepBudgets x = withRow(1, -1);
        Acts.of(x, 0).put(0, 0, 1, 1);
        raises(due, "PUT: CAST ahead of INDEX", x, 3, 3);
        x = withRow(1, -1);
        Acts.of(x, 0).get(2, 0, 2, 1);
        raises(due, "GET: CAST ahead of INDEX", x, 3, 3);
        x = withRow(1, -1);
        copyTo(x, 0, 3);
        raises(due, "COPY: STORE ahead of INDEX", x, 3, 4);
        x = withRow(1, 0);
        copyTo(x, 2, 0);
        raises(due, "COPY of none: STORE", x, 0, 4);
        x = withRow(1, -1);
        Acts.of(x, 0).copy(0, 2, 1);
        raises(due, "COPY to NONE: NULL ahead of INDEX", x, 3, 2);
        x = withRow(1, -1);
        Acts.of(x, 0).copy(2, 0, 1);
        raises(due, "COPY of NONE: NULL ahead of INDEX", x, 3, 2);
    }

    private static void rowThatIsNone(Due due) {
        for (int row = 0; row < 3; row++) {
            StepBudgets x = new StepBudgets();
            Acts.of(x, 0).put(row, 0, 0, 0);
            raises(due, "PUT to NONE", x, -1, 2);
            x = new StepBudgets();
            Acts.of(x, 0).get(1, row, 0, 0);
            raises(due, "GET of NONE", x, -1, 2);
            x = new StepBudgets();
            Acts.of(x, 0).size(1, row);
            raises(due, "SIZE of NONE", x, 0, 2);
            x = new StepBudgets();
            Acts.of(x, 0).copy(row, row, 0);
            raises(due, "COPY of NONE to itself", x, 0, 2);
            // A ROW that is NONE is handed on, not used, by CALL.
            x = new StepBudgets();
            Acts.of(x, 0).call(1, 1, row, 0).give(1);
            Acts.of(x, 1).give(0);
            gives(due, "CALL with NONE", x, 7, 7);
        }
    }

    private static void whatThrowsLeavesAllAsItWas(Due due) {
        // ACT 4 throws; the GUARD goes on behind it, where NUMBER 3 and the size of ROW 0 are as they were.
        for (int way = 0; way < 6; way++) {
            StepBudgets x = new StepBudgets();
            Acts acts = Acts.of(x, 0).set(1, 3).make(0, 1, 1).set(2, -1).set(3, 40);
            switch (way) {
                case 0: acts.reckon(4, 3, 1, 4); break;
                case 1: acts.get(3, 0, 1, 2); break;
                case 2: acts.size(3, 1); break;
                case 3: acts.make(0, 0, 2); break;
                case 4: acts.call(3, 1, 0, 1); break;
                default: acts.make(0, 0, 0); break;
            }
            acts.size(4, 0).reckon(1, 3, 3, 4).give(3);
            Acts.of(x, 1).raise(8);
            x.guard(0, 4, 5, 0, 5);
            gives(due, "what throws, way " + way, x, 65, 43);
        }
    }

    /** METHOD 0 CALLs itself NUMBER 0 times within each other. */
    private static StepBudgets nest() {
        StepBudgets x = new StepBudgets();
        Acts.of(x, 0).goIf(0, 2).give(0).set(1, -1).reckon(1, 0, 0, 1).call(2, 0, 0, 0).set(2, 5).give(2);
        return x;
    }

    private static void twelveFramesAndThirteen(Due due) {
        StepBudgets x = nest();
        gives(due, "11 FRAMES", x, 10, 5);
        due.is("11 FRAMES: within each other", x.latest(8), 11);
        gives(due, "12 FRAMES", x, 11, 5);
        due.is("12 FRAMES: made", x.latest(4), 12);
        due.is("12 FRAMES: within each other", x.latest(8), 12);
        raises(due, "13 FRAMES", x, 12, 7);
        due.is("13 FRAMES: made", x.latest(4), 12);
        due.is("13 FRAMES: within each other", x.latest(8), 12);
        // A CLEAN's FRAME is within the one that it cleans up behind.
        x.clean(0, 1, 2, 3);
        gives(due, "a CLEAN as FRAME 12", x, 10, 5);
        due.cleaned("a CLEAN as FRAME 12", x, 0, 3, 0, 12);
        raises(due, "a CLEAN as FRAME 13", x, 11, 7);
        due.is("a CLEAN as FRAME 13: CLEANS", x.latest(5), 0);
        // 13 FRAMES behind each other are no fault.
        StepBudgets y = new StepBudgets();
        Acts acts = Acts.of(y, 0);
        for (int i = 0; i < 40; i++) {
            acts.call(1, 1, 0, 0);
        }
        gives(due, "FRAMES behind each other", y, 0, 0);
        due.is("FRAMES behind each other: made", y.latest(4), 41);
        due.is("FRAMES behind each other: within each other", y.latest(8), 2);
    }

    private static void roomUnderGuards(Due due) {
        // The GUARD of FRAME 12 takes ROOM: it gives 7, and so do all around it.
        StepBudgets x = new StepBudgets();
        Acts.of(x, 0).call(5, 0, 0, 0).give(5);
        x.guard(0, 0, 1, 7, 1);
        gives(due, "ROOM in FRAME 12", x, 0, 7);
        due.is("ROOM in FRAME 12: GUARDS", x.latest(6), 1);
        // ROOM is none of the KINDS of which there are 24: 30 of them are no end.
        StepBudgets y = new StepBudgets();
        Acts.of(y, 0).set(1, 65).set(2, -1).make(0, 0, 1).reckon(1, 0, 0, 2).goIf(0, 2).give(5);
        y.guard(0, 2, 3, 7, 3);
        gives(due, "30 times ROOM", y, 30, 7);
        due.is("30 times ROOM: GUARDS", y.latest(6), 30);
    }
}
