/** Promise 3: guard. */
public final class Promise03Test {
    private static final int MIN = Integer.MIN_VALUE;
    private static final int MAX = Integer.MAX_VALUE;

    public static void main(String[] args) {
        Due due = new Due("promise 3");
        refusals(due);
        edges(due);
        due.end();
    }

    private static void refusals(Due due) {
        StepBudgets x = new StepBudgets();
        int[][] bad = {
            {-1, 0, 1, 0, 0}, {8, 0, 1, 0, 0}, {MIN, 0, 1, 0, 0}, {MAX, 0, 1, 0, 0},
            {0, -1, 1, 0, 0}, {0, 49, 50, 0, 0}, {0, 0, 49, 0, 0}, {0, 0, 0, 0, 0}, {0, 5, 5, 0, 0}, {0, 5, 4, 0, 0},
            {0, 48, 48, 0, 0}, {0, 0, -1, 0, 0}, {0, MIN, 1, 0, 0}, {0, 0, MAX, 0, 0},
            {0, 0, 1, -1, 0}, {0, 0, 1, 10, 0}, {0, 0, 1, MIN, 0}, {0, 0, 1, MAX, 0},
            {0, 0, 1, 0, -1}, {0, 0, 1, 0, 49}, {0, 0, 1, 0, MIN}, {0, 0, 1, 0, MAX},
        };
        for (int[] b : bad) {
            due.is("guard" + java.util.Arrays.toString(b), x.guard(b[0], b[1], b[2], b[3], b[4]), -1);
        }
        due.is("told(0, 1)", x.told(0, 1), 0);
        int[][] good = {{0, 48, 0, 0}, {47, 48, 9, 48}, {0, 1, 1, 1}, {1, 2, 8, 0}, {0, 2, 7, 47}, {3, 9, 0, 3}};
        for (int m = 0; m < 8; m += 7) {
            for (int g = 0; g < 6; g++) {
                due.is("guard " + g, x.guard(m, good[g][0], good[g][1], good[g][2], good[g][3]), g);
            }
            due.is("a 7th guard", x.guard(m, 0, 1, 0, 0), -2);
            due.is("a wrong 7th guard", x.guard(m, 1, 1, 0, 0), -1);
            due.is("told(.., 1)", x.told(m, 1), 6);
        }
        due.is("told(0, 0)", x.told(0, 0), 0);
        due.is("told(0, 2)", x.told(0, 2), 0);
    }

    /** METHOD 0 throws KIND 8 at ACT 2; where a GUARD takes it to ACT 4 it gives 7. */
    private static StepBudgets thrower() {
        StepBudgets x = new StepBudgets();
        Acts.of(x, 0).set(1, 7).set(2, 3).raise(8).give(2).give(1);
        return x;
    }

    private static void edges(Due due) {
        int[][] rows = {
            // from, to, KIND, what run answers
            {2, 3, 8, 0}, {2, 3, 0, 0}, {2, 3, 9, 2}, {2, 3, 7, 2}, {0, 2, 8, 2}, {3, 4, 8, 2}, {0, 48, 8, 0}, {1, 3, 8, 0},
        };
        for (int[] r : rows) {
            StepBudgets x = thrower();
            x.guard(0, r[0], r[1], r[2], 4);
            String call = "guard from " + r[0] + " to " + r[1] + " of KIND " + r[2];
            due.is(call, x.run(0, 0, 9), r[3]);
            due.latest(call, x, r[3] == 0 ? 7 : 0, r[3] == 0 ? 0 : 8, r[3] == 0 ? 2 : 1, 0, 1, 0, r[3] == 0 ? 1 : 0, 0, 1);
        }
        StepBudgets x = thrower();
        x.guard(0, 2, 3, 8, 3);
        x.guard(0, 2, 3, 0, 4);
        x.run(0, 0, 9);
        due.is("the first as told", x.latest(0), 3);
        x = thrower();
        x.guard(0, 2, 3, 9, 3);
        x.guard(0, 2, 3, 0, 4);
        x.run(0, 0, 9);
        due.is("the first that has the KIND", x.latest(0), 7);
        for (int at = 5; at <= 48; at += 43) {
            x = thrower();
            x.guard(0, 2, 3, 8, at);
            due.is("at no ACT", x.run(0, 0, 9), 0);
            due.latest("at no ACT", x, 0, 0, 2, 0, 1, 0, 1, 0, 1);
        }
        x = new StepBudgets();
        Acts.of(x, 0).raise(9).set(0, 1).give(5);
        x.guard(0, 0, 1, 0, 2);
        x.run(0, 0, 9);
        due.is("NUMBER 5 is the KIND", x.latest(0), 9);
        // ACT 1 throws in the GUARD's own ACT: it holds that one, too, and comes back until the BUDGET ends.
        x = new StepBudgets();
        Acts.of(x, 0).set(1, 0).raise(8);
        x.guard(0, 0, 2, 8, 1);
        due.is("a GUARD that holds its ACT", x.run(0, 0, 30), 1);
        due.latest("a GUARD that holds its ACT", x, 0, 0, 30, 0, 1, 0, 29, 0, 1);
    }
}
