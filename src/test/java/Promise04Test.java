import java.util.Arrays;

/** Promise 4: clean. */
public final class Promise04Test {
    private static final int MIN = Integer.MIN_VALUE;
    private static final int MAX = Integer.MAX_VALUE;
    private static final int BAD = -1;
    private static final int FULL = -2;

    public static void main(String[] args) {
        Due due = new Due("promise 4");
        numbersOfCleans(due);
        wrongMethods(due);
        wrongSpans(due);
        spansAtTheEdge(due);
        noMethod(due);
        fullMethod(due);
        wrongAheadOfFull(due);
        allSixAreRun(due);
        due.end();
    }

    private static void tryClean(Due due, int m, int from, int to, int by, int want) {
        StepBudgets x = new StepBudgets();
        String call = "clean" + Arrays.toString(new int[] {m, from, to, by});
        due.is(call, x.clean(m, from, to, by), want);
        int told = 0;
        for (int i = 0; i < 8; i++) {
            told += x.told(i, 2);
        }
        due.is("CLEANS behind " + call, told, want == 0 ? 1 : 0);
    }

    private static void numbersOfCleans(Due due) {
        StepBudgets x = new StepBudgets();
        for (int i = 0; i < 3; i++) {
            for (int m = 0; m < 8; m++) {
                due.is("clean " + i + " of METHOD " + m, x.clean(m, 0, 1, m), i);
            }
        }
        due.is("no ACTS", x.told(0, 0), 0);
        due.is("no GUARDS", x.told(0, 1), 0);
    }

    private static void wrongMethods(Due due) {
        for (int m : new int[] {-1, 8, MIN, MAX}) {
            tryClean(due, m, 0, 1, 0, BAD);
        }
    }

    private static void wrongSpans(Due due) {
        int[][] spans = {
            {-1, 1}, {MIN, 1}, {49, 50}, {MAX, MAX}, {MIN, MAX}, {0, 49}, {0, MAX}, {48, 49}, {0, -1}, {-2, -1},
            {0, 0}, {5, 5}, {48, 48}, {5, 4}, {48, 47}, {48, 0},
        };
        for (int[] s : spans) {
            tryClean(due, 0, s[0], s[1], 0, BAD);
        }
    }

    private static void spansAtTheEdge(Due due) {
        int[][] spans = {{0, 1}, {0, 48}, {47, 48}, {46, 47}, {1, 2}};
        for (int[] s : spans) {
            tryClean(due, 7, s[0], s[1], 0, 0);
        }
    }

    private static void noMethod(Due due) {
        for (int by : new int[] {-1, 8, MIN, MAX}) {
            tryClean(due, 0, 0, 1, by, BAD);
        }
        for (int by = 0; by < 8; by++) {
            tryClean(due, 0, 0, 1, by, 0);
        }
    }

    private static void fullMethod(Due due) {
        StepBudgets x = new StepBudgets();
        for (int m = 0; m < 8; m++) {
            for (int c = 0; c < 6; c++) {
                due.is("clean " + c, x.clean(m, 0, 1, 0), c);
            }
            due.is("a 7th clean", x.clean(m, 0, 1, 0), FULL);
            due.is("CLEANS", x.told(m, 2), 6);
        }
    }

    private static void wrongAheadOfFull(Due due) {
        StepBudgets x = new StepBudgets();
        for (int c = 0; c < 6; c++) {
            x.clean(2, 0, 1, 0);
        }
        due.is("a 7th clean of no span", x.clean(2, 1, 1, 0), BAD);
        due.is("a 7th clean by no METHOD", x.clean(2, 0, 1, 8), BAD);
    }

    private static void allSixAreRun(Due due) {
        StepBudgets x = new StepBudgets();
        Acts.of(x, 0).give(0);
        for (int c = 0; c < 6; c++) {
            x.clean(0, 0, 48, c + 1);
        }
        due.is("six CLEANS", x.run(0, 4, 7), 0);
        due.latest("six CLEANS", x, 4, 0, 7, 0, 7, 6, 0, 0, 2);
        for (int k = 0; k < 6; k++) {
            due.cleaned("six CLEANS", x, k, 6 - k, 0, 2);
        }
        due.is("six CLEANS: cleaned(6, 0)", x.cleaned(6, 0), -3);
    }
}
