/** Promise 2: act, and which numbers it refuses. */
public final class Promise02Test {
    private static final int ANY = 0;

    // For each kind: the ends of a, b, c, d; ANY where a number is not looked at.
    private static final int[][] ENDS = {
        {6, ANY, ANY, ANY}, {6, 6, 6, ANY}, {6, 6, 6, ANY}, {6, 6, 6, ANY}, {6, 6, 6, ANY}, {6, 6, 6, ANY},
        {ANY, 49, ANY, ANY}, {6, 49, ANY, ANY},
        {3, 3, 6, ANY}, {3, 3, 6, 6}, {6, 3, 3, 6}, {6, 3, ANY, ANY}, {3, 3, 6, ANY},
        {6, 8, 3, 6}, {6, ANY, ANY, ANY}, {ANY, 10, ANY, ANY},
    };

    public static void main(String[] args) {
        Due due = new Due("promise 2");
        numbersOfKinds(due);
        methodsAndKinds(due);
        room(due);
        due.end();
    }

    private static int lowest(int kind, int which) {
        return kind == 15 && which == 1 ? 8 : 0;
    }

    private static void numbersOfKinds(Due due) {
        for (int kind = 0; kind < 16; kind++) {
            for (int which = 0; which < 4; which++) {
                int end = ENDS[kind][which];
                int low = lowest(kind, which);
                boolean any = end == ANY;
                tryNumber(due, kind, which, low, 0);
                tryNumber(due, kind, which, any ? 1000 : end - 1, 0);
                tryNumber(due, kind, which, low - 1, any ? 0 : -1);
                tryNumber(due, kind, which, any ? 49 : end, any ? 0 : -1);
                tryNumber(due, kind, which, Integer.MIN_VALUE, any ? 0 : -1);
                tryNumber(due, kind, which, Integer.MAX_VALUE, any ? 0 : -1);
            }
        }
    }

    private static void tryNumber(Due due, int kind, int which, int number, int want) {
        StepBudgets x = new StepBudgets();
        int[] n = {0, lowest(kind, 1), 0, 0};
        n[which] = number;
        String call = "act(0, " + kind + ", " + n[0] + ", " + n[1] + ", " + n[2] + ", " + n[3] + ")";
        due.is(call, x.act(0, kind, n[0], n[1], n[2], n[3]), want);
        due.is("told behind " + call, x.told(0, 0), want == 0 ? 1 : 0);
    }

    private static void methodsAndKinds(Due due) {
        StepBudgets x = new StepBudgets();
        for (int m : new int[] {-1, 8, Integer.MIN_VALUE, Integer.MAX_VALUE}) {
            due.is("act of METHOD " + m, x.act(m, 0, 0, 0, 0, 0), -1);
        }
        for (int kind : new int[] {-1, 16, Integer.MIN_VALUE, Integer.MAX_VALUE}) {
            due.is("act of kind " + kind, x.act(0, kind, 0, 8, 0, 0), -1);
        }
        for (int m = 0; m < 8; m++) {
            due.is("act of METHOD " + m, x.act(m, 0, 0, 0, 0, 0), 0);
            due.is("act of METHOD " + m, x.act(m, 0, 0, 0, 0, 0), 1);
            due.is("told(" + m + ", 0)", x.told(m, 0), 2);
        }
    }

    private static void room(Due due) {
        StepBudgets x = new StepBudgets();
        for (int i = 0; i < 48; i++) {
            due.is("act " + i, x.act(3, 0, 0, i, 0, 0), i);
        }
        due.is("a 49th act", x.act(3, 0, 0, 0, 0, 0), -2);
        due.is("a wrong 49th act", x.act(3, 0, 6, 0, 0, 0), -1);
        due.is("told(3, 0)", x.told(3, 0), 48);
        due.is("act of another METHOD", x.act(4, 0, 0, 0, 0, 0), 0);
        due.is("run(3)", x.run(3, 0, 1), 0);
    }
}
