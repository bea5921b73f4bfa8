import java.util.Arrays;

/**
 * "What is refused changes nothing", for each method that can refuse: an object of which something wrong
 * was asked answers all else as its twin does, of which it was not. Each question has objects of its own.
 */
public final class RefusedTest {
    private static final int MIN = Integer.MIN_VALUE;
    private static final int MAX = Integer.MAX_VALUE;
    private static final int BAD = -1;
    private static final int FULL = -2;
    private static final int NONE = -3;

    /** The METHOD that prepared objects have full: 48 ACTS, 6 GUARDS, 6 CLEANS. */
    private static final int FULL_METHOD = 6;
    private static final int STATES = 4;

    private final Due due;

    private RefusedTest(Due due) {
        this.due = due;
    }

    public static void main(String[] args) {
        Due due = new Due("refused");
        RefusedTest test = new RefusedTest(due);
        test.refusedActs();
        test.actsOfFullMethod();
        test.refusedGuards();
        test.guardsOfFullMethod();
        test.refusedCleans();
        test.cleansOfFullMethod();
        test.refusedClears();
        test.refusedReserves();
        test.refusedRuns();
        test.refusedLatests();
        test.refusedCleaneds();
        test.refusedTolds();
        due.end();
    }

    private void refusedActs() {
        for (int m : new int[] {-1, 8, MIN, MAX}) {
            refuse(BAD, "act", m, 0, 0, 0, 0, 0);
        }
        for (int kind : new int[] {-1, 16, MIN, MAX}) {
            refuse(BAD, "act", 0, kind, 0, 8, 0, 0);
        }
        refuse(BAD, "act", 0, 0, 6, 0, 0, 0);
        refuse(BAD, "act", 0, 6, 0, 49, 0, 0);
        refuse(BAD, "act", 0, 9, 0, 3, 0, 0);
        refuse(BAD, "act", 0, 12, 0, 0, 6, 0);
        refuse(BAD, "act", 0, 13, 0, 0, 0, 6);
        refuse(BAD, "act", 0, 15, 0, 7, 0, 0);
        refuse(BAD, "act", 0, 15, 0, 10, 0, 0);
    }

    private void actsOfFullMethod() {
        refuse(FULL, "act", FULL_METHOD, 0, 0, 0, 0, 0);
        refuse(FULL, "act", FULL_METHOD, 15, 0, 9, 0, 0);
        refuse(BAD, "act", FULL_METHOD, 16, 0, 0, 0, 0);
    }

    private void refusedGuards() {
        for (int m : new int[] {-1, 8, MIN, MAX}) {
            refuse(BAD, "guard", m, 0, 1, 0, 0);
        }
        refuse(BAD, "guard", 0, -1, 1, 0, 0);
        refuse(BAD, "guard", 0, 0, 49, 0, 0);
        refuse(BAD, "guard", 0, 1, 1, 0, 0);
        refuse(BAD, "guard", 0, 0, 1, -1, 0);
        refuse(BAD, "guard", 0, 0, 1, 10, 0);
        refuse(BAD, "guard", 0, 0, 1, 0, -1);
        refuse(BAD, "guard", 0, 0, 1, 0, 49);
    }

    private void guardsOfFullMethod() {
        refuse(FULL, "guard", FULL_METHOD, 0, 48, 0, 48);
        refuse(BAD, "guard", FULL_METHOD, 48, 48, 0, 48);
    }

    private void refusedCleans() {
        for (int m : new int[] {-1, 8, MIN, MAX}) {
            refuse(BAD, "clean", m, 0, 1, 0);
            refuse(BAD, "clean", 0, 0, 1, m);
        }
        refuse(BAD, "clean", 0, -1, 1, 0);
        refuse(BAD, "clean", 0, 0, 49, 0);
        refuse(BAD, "clean", 0, 1, 1, 0);
    }

    private void cleansOfFullMethod() {
        refuse(FULL, "clean", FULL_METHOD, 0, 48, 7);
        refuse(BAD, "clean", FULL_METHOD, 0, 48, 8);
    }

    private void refusedClears() {
        for (int m : new int[] {-1, 8, MIN, MAX}) {
            refuse(BAD, "clear", m);
        }
    }

    private void refusedReserves() {
        for (int n : new int[] {-1, 101, MIN, MAX}) {
            refuse(BAD, "reserve", n);
        }
    }

    private void refusedRuns() {
        for (int m : new int[] {-1, 8, MIN, MAX}) {
            refuse(BAD, "run", m, 0, 50);
        }
        for (int budget : new int[] {-1, 501, MIN, MAX}) {
            refuse(BAD, "run", 0, 0, budget);
        }
    }

    private void refusedLatests() {
        for (int what : new int[] {-1, 9, MIN, MAX}) {
            refuse(BAD, "latest", what);
        }
    }

    private void refusedCleaneds() {
        for (int what : new int[] {-1, 3, MIN, MAX}) {
            refuse(BAD, "cleaned", 0, what);
        }
        for (int k : new int[] {-1, MIN}) {
            refuse(BAD, "cleaned", k, 0);
        }
        for (int k : new int[] {50, 100, MAX}) {
            refuse(NONE, "cleaned", k, 0);
        }
    }

    private void refusedTolds() {
        for (int m : new int[] {-1, 8, MIN, MAX}) {
            refuse(BAD, "told", m, 0);
        }
        for (int what : new int[] {-1, 3, MIN, MAX}) {
            refuse(BAD, "told", 0, what);
        }
    }

    private void refuse(int want, String name, int... numbers) {
        for (int state = 0; state < STATES; state++) {
            StepBudgets x = prepared(state);
            String call = name + Arrays.toString(numbers) + " in state " + state;
            due.is(call, ask(x, name, numbers), want);
            compare("behind " + call, x, prepared(state));
        }
    }

    private static int ask(StepBudgets x, String name, int... n) {
        switch (name) {
            case "act": return x.act(n[0], n[1], n[2], n[3], n[4], n[5]);
            case "guard": return x.guard(n[0], n[1], n[2], n[3], n[4]);
            case "clean": return x.clean(n[0], n[1], n[2], n[3]);
            case "clear": return x.clear(n[0]);
            case "reserve": return x.reserve(n[0]);
            case "run": return x.run(n[0], n[1], n[2]);
            case "latest": return x.latest(n[0]);
            case "cleaned": return x.cleaned(n[0], n[1]);
            case "told": return x.told(n[0], n[1]);
            default: throw new IllegalStateException(name);
        }
    }

    /** An object ahead of any run, or whose latest run gave (1), was STOPPED and overran (2), threw (3). */
    private static StepBudgets prepared(int state) {
        StepBudgets x = new StepBudgets();
        Acts.of(x, 0).raise(8).call(1, 1, 0, 0).goIf(0, 2).give(1);
        x.guard(0, 0, 1, 8, 1);
        x.clean(0, 1, 4, 2);
        Acts.of(x, 1).set(1, 5).give(1);
        Acts.of(x, 2).goIf(0, 0);
        Acts.of(x, 3).raise(9);
        x.clean(3, 0, 1, 1);
        fill(x);
        x.reserve(4);
        if (state == 1) {
            x.run(0, 0, 50);
        } else if (state == 2) {
            x.run(0, 1, 20);
        } else if (state == 3) {
            x.run(3, 0, 50);
        }
        return x;
    }

    private static void fill(StepBudgets x) {
        Acts acts = Acts.of(x, FULL_METHOD).set(1, 1);
        for (int i = 0; i < 46; i++) {
            acts.reckon(1, 0, 0, 1);
        }
        acts.give(0);
        for (int i = 0; i < 6; i++) {
            x.guard(FULL_METHOD, i, 48, 8, 48);
            x.clean(FULL_METHOD, 8 * i, 8 * i + 8, i);
        }
    }

    private void compare(String call, StepBudgets x, StepBudgets twin) {
        for (int m = 0; m < 8; m++) {
            for (int what = 0; what < 3; what++) {
                due.is(call + ": told(" + m + ", " + what + ")", x.told(m, what), twin.told(m, what));
            }
        }
        compareLatest(call, x, twin);
        due.is(call + ": reserve", x.reserve(4), 4);
        int[][] runs = {{0, 0, 50}, {0, 1, 20}, {3, 0, 50}, {FULL_METHOD, 7, 60}};
        for (int[] r : runs) {
            String run = call + ", run" + Arrays.toString(r);
            due.is(run, x.run(r[0], r[1], r[2]), twin.run(r[0], r[1], r[2]));
            compareLatest(run, x, twin);
        }
    }

    private void compareLatest(String call, StepBudgets x, StepBudgets twin) {
        for (int what = 0; what < 9; what++) {
            due.is(call + ": latest(" + what + ")", x.latest(what), twin.latest(what));
        }
        for (int k = 0; k < 7; k++) {
            due.cleaned(call, x, k, twin.cleaned(k, 0), twin.cleaned(k, 1), twin.cleaned(k, 2));
        }
    }
}
