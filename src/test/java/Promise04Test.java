/** Promise 4: clean. */
public final class Promise04Test {
    private static final int MIN = Integer.MIN_VALUE;
    private static final int MAX = Integer.MAX_VALUE;

    public static void main(String[] args) {
        Due due = new Due("promise 4");
        StepBudgets x = new StepBudgets();
        int[][] bad = {
            {-1, 0, 1, 0}, {8, 0, 1, 0}, {MIN, 0, 1, 0}, {MAX, 0, 1, 0},
            {0, -1, 1, 0}, {0, 49, 50, 0}, {0, 0, 49, 0}, {0, 0, 0, 0}, {0, 5, 5, 0}, {0, 5, 4, 0}, {0, 48, 48, 0},
            {0, MIN, 1, 0}, {0, 0, MAX, 0}, {0, 0, 1, -1}, {0, 0, 1, 8}, {0, 0, 1, MIN}, {0, 0, 1, MAX},
        };
        for (int[] b : bad) {
            due.is("clean" + java.util.Arrays.toString(b), x.clean(b[0], b[1], b[2], b[3]), -1);
        }
        due.is("told(0, 2)", x.told(0, 2), 0);
        int[][] good = {{0, 48, 0}, {47, 48, 7}, {0, 1, 1}, {0, 1, 1}, {1, 2, 3}, {4, 9, 5}};
        for (int m = 0; m < 8; m += 7) {
            for (int c = 0; c < 6; c++) {
                due.is("clean " + c, x.clean(m, good[c][0], good[c][1], good[c][2]), c);
            }
            due.is("a 7th clean", x.clean(m, 0, 1, 0), -2);
            due.is("a wrong 7th clean", x.clean(m, 0, 1, 8), -1);
            due.is("told(.., 2)", x.told(m, 2), 6);
        }
        due.is("told(0, 0)", x.told(0, 0), 0);
        due.is("told(0, 1)", x.told(0, 1), 0);
        allSix(due);
        due.end();
    }

    private static void allSix(Due due) {
        StepBudgets x = new StepBudgets();
        Acts.of(x, 0).give(0);
        for (int c = 0; c < 6; c++) {
            x.clean(0, 0, 48, c + 1);
        }
        due.is("six CLEANS", x.run(0, 4, 7), 0);
        due.latest("six CLEANS", x, 4, 0, 7, 0, 7, 6, 0, 0, 2);
        for (int k = 0; k < 6; k++) {
            due.cleaned("six CLEANS", x, k, 6 - k, 0, 2);
        }
        due.is("six CLEANS: cleaned(6, 0)", x.cleaned(6, 0), -3);
    }
}
