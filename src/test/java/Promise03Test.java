import java.util.Arrays;

/** Promise 3: guard. */
public final class Promise03Test {
    private static final int MIN = Integer.MIN_VALUE;
    private static final int MAX = Integer.MAX_VALUE;
    private static final int BAD = -1;
    private static final int FULL = -2;

    public static void main(String[] args) {
        Due due = new Due("promise 3");
        numbersOfGuards(due);
        wrongMethods(due);
        wrongSpans(due);
        spansAtTheEdge(due);
        wrongKinds(due);
        wrongActs(due);
        fullMethod(due);
        wrongAheadOfFull(due);
        holdsFromUpToAheadOf(due);
        hasItsKindOrAny(due);
        firstAsTold(due);
        goesOnThere(due);
        actThatIsNotThere(due);
        numberFiveIsTheKind(due);
        holdsItsOwnAct(due);
        due.end();
    }

    private static void tryGuard(Due due, int m, int from, int to, int kind, int at, int want) {
        StepBudgets x = new StepBudgets();
        String call = "guard" + Arrays.toString(new int[] {m, from, to, kind, at});
        due.is(call, x.guard(m, from, to, kind, at), want);
        int told = 0;
        for (int i = 0; i < 8; i++) {
            told += x.told(i, 1);
        }
        due.is("GUARDS behind " + call, told, want == 0 ? 1 : 0);
    }

    private static void numbersOfGuards(Due due) {
        StepBudgets x = new StepBudgets();
        for (int i = 0; i < 3; i++) {
            for (int m = 0; m < 8; m++) {
                due.is("guard " + i + " of METHOD " + m, x.guard(m, 0, 1, 0, 0), i);
            }
        }
        due.is("no ACTS", x.told(0, 0), 0);
        due.is("no CLEANS", x.told(0, 2), 0);
    }

    private static void wrongMethods(Due due) {
        for (int m : new int[] {-1, 8, MIN, MAX}) {
            tryGuard(due, m, 0, 1, 0, 0, BAD);
        }
    }

    private static void wrongSpans(Due due) {
        int[][] spans = {
            {-1, 1}, {MIN, 1}, {49, 50}, {MAX, MAX}, {MIN, MAX}, {0, 49}, {0, MAX}, {48, 49}, {0, -1}, {-2, -1},
            {0, 0}, {5, 5}, {48, 48}, {5, 4}, {48, 47}, {48, 0},
        };
        for (int[] s : spans) {
            tryGuard(due, 0, s[0], s[1], 0, 0, BAD);
        }
    }

    private static void spansAtTheEdge(Due due) {
        int[][] spans = {{0, 1}, {0, 48}, {47, 48}, {46, 47}, {1, 2}};
        for (int[] s : spans) {
            tryGuard(due, 7, s[0], s[1], 0, 0, 0);
        }
    }

    private static void wrongKinds(Due due) {
        for (int kind : new int[] {-1, 10, MIN, MAX}) {
            tryGuard(due, 0, 0, 1, kind, 0, BAD);
        }
        for (int kind = 0; kind <= 9; kind++) {
            tryGuard(due, 0, 0, 1, kind, 0, 0);
        }
    }

    private static void wrongActs(Due due) {
        for (int at : new int[] {-1, 49, MIN, MAX}) {
            tryGuard(due, 0, 0, 1, 0, at, BAD);
        }
        for (int at : new int[] {0, 1, 47, 48}) {
            tryGuard(due, 0, 0, 1, 0, at, 0);
        }
    }

    private static void fullMethod(Due due) {
        StepBudgets x = new StepBudgets();
        for (int m = 0; m < 8; m++) {
            for (int g = 0; g < 6; g++) {
                due.is("guard " + g, x.guard(m, 0, 1, 0, 0), g);
            }
            due.is("a 7th guard", x.guard(m, 0, 1, 0, 0), FULL);
            due.is("GUARDS", x.told(m, 1), 6);
        }
    }

    private static void wrongAheadOfFull(Due due) {
        StepBudgets x = new StepBudgets();
        for (int g = 0; g < 6; g++) {
            x.guard(2, 0, 1, 0, 0);
        }
        due.is("a 7th guard of no span", x.guard(2, 1, 1, 0, 0), BAD);
        due.is("a 7th guard of no KIND", x.guard(2, 0, 1, 10, 0), BAD);
        due.is("a 7th guard at no ACT", x.guard(2, 0, 1, 0, 49), BAD);
    }

    /** METHOD 0 throws KIND 8 at ACT 2; where a GUARD takes it to ACT 4 it gives 7, at ACT 3 it gives 3. */
    private static StepBudgets thrower() {
        StepBudgets x = new StepBudgets();
        Acts.of(x, 0).set(1, 7).set(2, 3).raise(8).give(2).give(1);
        return x;
    }

    private static void tryThrower(Due due, int from, int to, int kind, boolean entered) {
        StepBudgets x = thrower();
        x.guard(0, from, to, kind, 4);
        String call = "guard from " + from + " to " + to + " of KIND " + kind;
        due.is(call, x.run(0, 0, 9), entered ? 0 : 2);
        int one = entered ? 1 : 0;
        due.latest(call, x, 7 * one, 8 - 8 * one, 1 + one, 0, 1, 0, one, 0, 1);
    }

    private static void holdsFromUpToAheadOf(Due due) {
        tryThrower(due, 2, 3, 8, true);
        tryThrower(due, 1, 3, 8, true);
        tryThrower(due, 0, 48, 8, true);
        tryThrower(due, 2, 48, 8, true);
        tryThrower(due, 0, 2, 8, false);
        tryThrower(due, 3, 4, 8, false);
        tryThrower(due, 3, 48, 8, false);
    }

    private static void hasItsKindOrAny(Due due) {
        for (int kind = 0; kind <= 9; kind++) {
            tryThrower(due, 2, 3, kind, kind == 0 || kind == 8);
        }
    }

    private static void firstAsTold(Due due) {
        StepBudgets x = thrower();
        x.guard(0, 2, 3, 8, 3);
        x.guard(0, 2, 3, 0, 4);
        x.run(0, 0, 9);
        due.is("the first as told", x.latest(0), 3);
        x = thrower();
        x.guard(0, 2, 3, 0, 3);
        x.guard(0, 2, 3, 8, 4);
        x.run(0, 0, 9);
        due.is("the first as told, of any KIND", x.latest(0), 3);
        x = thrower();
        x.guard(0, 2, 3, 9, 3);
        x.guard(0, 0, 2, 8, 3);
        x.guard(0, 2, 3, 8, 4);
        x.run(0, 0, 9);
        due.is("the first that holds it and has its KIND", x.latest(0), 7);
        due.is("the first that holds it and has its KIND: GUARDS", x.latest(6), 1);
        x = thrower();
        for (int g = 0; g < 5; g++) {
            x.guard(0, 2, 3, 9, 3);
        }
        x.guard(0, 2, 3, 8, 4);
        x.run(0, 0, 9);
        due.is("the sixth", x.latest(0), 7);
    }

    private static void goesOnThere(Due due) {
        // ACT 3 throws; from the GUARD's ACT on all ACTS up to ACT 7 are done, each with a digit of its own.
        int[][] rows = {{1, 0}, {4, 4567}, {5, 567}, {6, 67}, {7, 7}};
        for (int[] r : rows) {
            StepBudgets x = new StepBudgets();
            Acts acts = Acts.of(x, 0).set(2, 10).go(3).give(3).raise(8);
            for (int digit = 4; digit <= 7; digit++) {
                acts.set(1, digit).reckon(3, 3, 3, 2).reckon(1, 3, 3, 1);
            }
            acts.give(3);
            x.guard(0, 3, 4, 0, r[0] < 4 ? r[0] : 3 * r[0] - 8);
            String call = "a GUARD that goes on at digit " + r[0];
            due.is(call, x.run(0, 0, 9), r[0] < 4 ? 1 : 0);
            due.is(call + ": it gave", x.latest(0), r[1]);
        }
    }

    private static void actThatIsNotThere(Due due) {
        for (int at : new int[] {5, 6, 47, 48}) {
            StepBudgets x = thrower();
            x.guard(0, 2, 3, 8, at);
            due.is("at no ACT", x.run(0, 0, 9), 0);
            due.latest("at no ACT", x, 0, 0, 2, 0, 1, 0, 1, 0, 1);
        }
    }

    private static void numberFiveIsTheKind(Due due) {
        for (int kind = 8; kind <= 9; kind++) {
            StepBudgets x = new StepBudgets();
            Acts.of(x, 0).set(5, 77).raise(kind).set(0, 1).give(5);
            x.guard(0, 1, 2, 0, 3);
            x.run(0, 0, 9);
            due.is("NUMBER 5 is the KIND", x.latest(0), kind);
        }
    }

    private static void holdsItsOwnAct(Due due) {
        // ACT 1 throws in the GUARD's own ACT: it holds that one, too, and comes back until the BUDGET ends.
        StepBudgets x = new StepBudgets();
        Acts.of(x, 0).set(1, 0).raise(8);
        x.guard(0, 0, 2, 8, 1);
        due.is("a GUARD that holds its ACT", x.run(0, 0, 30), 1);
        due.latest("a GUARD that holds its ACT", x, 0, 0, 30, 0, 1, 0, 29, 0, 1);
    }
}
