/** Promise 2: act, and which numbers it refuses. */
public final class Promise02Test {
    private static final int MIN = Integer.MIN_VALUE;
    private static final int MAX = Integer.MAX_VALUE;
    private static final int BAD = -1;
    private static final int FULL = -2;
    private static final int ANY = 0;

    // For each kind: the ends of a, b, c, d; ANY where a number is not looked at.
    private static final int[][] ENDS = {
        {6, ANY, ANY, ANY}, {6, 6, 6, ANY}, {6, 6, 6, ANY}, {6, 6, 6, ANY}, {6, 6, 6, ANY}, {6, 6, 6, ANY},
        {ANY, 49, ANY, ANY}, {6, 49, ANY, ANY},
        {3, 3, 6, ANY}, {3, 3, 6, 6}, {6, 3, 3, 6}, {6, 3, ANY, ANY}, {3, 3, 6, ANY},
        {6, 8, 3, 6}, {6, ANY, ANY, ANY}, {ANY, 10, ANY, ANY},
    };

    public static void main(String[] args) {
        Due due = new Due("promise 2");
        numbersOfActs(due);
        wrongMethods(due);
        wrongKinds(due);
        numbersOfKinds(due);
        numbersThatAreNotNamed(due);
        setTakesAny(due);
        throwTakesEightAndNine(due);
        fullMethod(due);
        wrongAheadOfFull(due);
        due.end();
    }

    private static void numbersOfActs(Due due) {
        StepBudgets x = new StepBudgets();
        for (int i = 0; i < 3; i++) {
            for (int m = 0; m < 8; m++) {
                due.is("act " + i + " of METHOD " + m, x.act(m, 0, 0, 0, 0, 0), i);
            }
        }
        for (int m = 0; m < 8; m++) {
            due.is("told(" + m + ", 0)", x.told(m, 0), 3);
        }
    }

    private static void wrongMethods(Due due) {
        StepBudgets x = new StepBudgets();
        for (int m : new int[] {-1, 8, MIN, MAX}) {
            due.is("act of METHOD " + m, x.act(m, 0, 0, 0, 0, 0), BAD);
        }
    }

    private static void wrongKinds(Due due) {
        StepBudgets x = new StepBudgets();
        for (int kind : new int[] {-1, 16, MIN, MAX}) {
            due.is("act of kind " + kind, x.act(0, kind, 0, 8, 0, 0), BAD);
        }
        due.is("told(0, 0)", x.told(0, 0), 0);
        for (int kind = 0; kind < 16; kind++) {
            due.is("act of kind " + kind, x.act(0, kind, 0, lowest(kind, 1), 0, 0), kind);
        }
    }

    private static int lowest(int kind, int which) {
        return kind == 15 && which == 1 ? 8 : 0;
    }

    /** For each number that a kind names: the first and the last one, one below and one above, and the furthest. */
    private static void numbersOfKinds(Due due) {
        for (int kind = 0; kind < 16; kind++) {
            for (int which = 0; which < 4; which++) {
                int end = ENDS[kind][which];
                if (end != ANY) {
                    int low = lowest(kind, which);
                    tryNumber(due, kind, which, low, 0);
                    tryNumber(due, kind, which, end - 1, 0);
                    tryNumber(due, kind, which, low - 1, BAD);
                    tryNumber(due, kind, which, end, BAD);
                    tryNumber(due, kind, which, MIN, BAD);
                    tryNumber(due, kind, which, MAX, BAD);
                }
            }
        }
    }

    private static void numbersThatAreNotNamed(Due due) {
        for (int kind = 0; kind < 16; kind++) {
            for (int which = 0; which < 4; which++) {
                if (ENDS[kind][which] == ANY) {
                    for (int number : new int[] {-1, 6, 49, MIN, MAX}) {
                        tryNumber(due, kind, which, number, 0);
                    }
                }
            }
        }
    }

    private static void tryNumber(Due due, int kind, int which, int number, int want) {
        StepBudgets x = new StepBudgets();
        int[] n = {0, lowest(kind, 1), 0, 0};
        n[which] = number;
        String call = "act(0, " + kind + ", " + n[0] + ", " + n[1] + ", " + n[2] + ", " + n[3] + ")";
        due.is(call, x.act(0, kind, n[0], n[1], n[2], n[3]), want);
        due.is("told behind " + call, x.told(0, 0), want == 0 ? 1 : 0);
    }

    private static void setTakesAny(Due due) {
        for (int value : new int[] {0, -1, 1, 48, 49, MIN, MAX}) {
            StepBudgets x = new StepBudgets();
            due.is("SET to " + value, x.act(0, 0, 5, value, 0, 0), 0);
            Acts.of(x, 0).give(5);
            x.run(0, 0, 1);
            due.is("what was SET", x.latest(0), value);
        }
    }

    private static void throwTakesEightAndNine(Due due) {
        for (int kind = -1; kind <= 11; kind++) {
            StepBudgets x = new StepBudgets();
            boolean asTold = kind == 8 || kind == 9;
            due.is("THROW of KIND " + kind, x.act(0, 15, 0, kind, 0, 0), asTold ? 0 : BAD);
            due.is("THROW of KIND " + kind + " is run", x.run(0, 0, 1), asTold ? 2 : 0);
            due.is("what was thrown", x.latest(1), asTold ? kind : 0);
        }
    }

    private static void fullMethod(Due due) {
        for (int m = 0; m < 8; m++) {
            StepBudgets x = new StepBudgets();
            for (int i = 0; i < 48; i++) {
                due.is("act " + i, x.act(m, 0, 0, i, 0, 0), i);
            }
            due.is("a 49th act", x.act(m, 0, 0, 0, 0, 0), FULL);
            due.is("a 50th act", x.act(m, 14, 0, 0, 0, 0), FULL);
            due.is("told(" + m + ", 0)", x.told(m, 0), 48);
            due.is("act of another METHOD", x.act((m + 1) % 8, 0, 0, 0, 0, 0), 0);
        }
    }

    private static void wrongAheadOfFull(Due due) {
        StepBudgets x = new StepBudgets();
        for (int i = 0; i < 48; i++) {
            x.act(3, 0, 0, i, 0, 0);
        }
        due.is("a 49th act of no NUMBER", x.act(3, 0, 6, 0, 0, 0), BAD);
        due.is("a 49th act of no kind", x.act(3, 16, 0, 0, 0, 0), BAD);
    }
}
