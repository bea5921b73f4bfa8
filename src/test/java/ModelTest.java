import java.util.Random;

/** Programs drawn from fixed seeds, run by StepBudgets and by the Model, which must agree in every answer. */
public final class ModelTest {
    private static final int PROGRAMS = 30_000;

    // Nothing is promised of an object behind 512 calls: hence not all of the CLEANS of a run.
    private static final int FIRST_COMPARED = 20;
    private static final int LAST_COMPARED = 10;

    // ANY where a kind does not look at a number: what is drawn there must change nothing.
    private static final int ANY = 0;
    private static final int[] ENDS_A = {6, 6, 6, 6, 6, 6, ANY, 6, 3, 3, 6, 6, 3, 6, 6, ANY};
    private static final int[] ENDS_B = {ANY, 6, 6, 6, 6, 6, ANY, ANY, 3, 3, 3, 3, 3, ANY, ANY, ANY};
    private static final int[] ENDS_C = {ANY, 6, 6, 6, 6, 6, ANY, ANY, 6, 6, 3, ANY, 6, 3, ANY, ANY};
    private static final int[] ENDS_D = {ANY, ANY, ANY, ANY, ANY, ANY, ANY, ANY, ANY, 6, 6, ANY, ANY, 6, ANY, ANY};
    private static final int[] VALUES = {0, 1, 2, 3, 4, 5, 6, 8, 9, 64, 65, -1, -7, 200, Integer.MIN_VALUE, Integer.MAX_VALUE};
    private static final int[] BUDGETS = {0, 1, 2, 5, 8, 12, 13, 14, 25, 40, 100, 500};

    private final Random random;
    private final StepBudgets x = new StepBudgets();
    private final Model model = new Model();

    private ModelTest(long seed) {
        random = new Random(seed);
    }

    public static void main(String[] args) {
        Due due = new Due("model");
        int[] seen = new int[9];
        int[] outcomes = new int[3];
        for (int seed = 0; seed < PROGRAMS; seed++) {
            ModelTest test = new ModelTest(seed);
            test.writeProgram();
            for (int turn = 0; turn < 4; turn++) {
                test.compareRun(due, "seed " + seed + ", turn " + turn, outcomes);
                for (int what = 0; what < 9; what++) {
                    seen[what] = Math.max(seen[what], test.model.latest[what]);
                }
            }
        }
        System.out.println("model: outcomes " + java.util.Arrays.toString(outcomes) + ", most of each " + java.util.Arrays.toString(seen));
        due.end();
    }

    private void writeProgram() {
        int methods = 1 + random.nextInt(4);
        for (int m = 0; m < methods; m++) {
            int count = 1 + random.nextInt(14);
            if (random.nextBoolean()) {
                writeRows(m);
            }
            for (int i = 0; i < count; i++) {
                writeAct(m, methods, count);
            }
            for (int i = random.nextInt(5); i > 0; i--) {
                int from = random.nextInt(count);
                int to = from + 1 + random.nextInt(count);
                int kind = random.nextInt(3) > 0 ? 0 : random.nextInt(10);
                int at = random.nextInt(count + 2);
                x.guard(m, from, to, kind, at);
                model.guards.get(m).add(new int[] {from, to, kind, at});
            }
            for (int i = random.nextInt(5); i > 0; i--) {
                int from = random.nextInt(count);
                int to = from + 1 + random.nextInt(count);
                int by = random.nextInt(methods + 1);
                x.clean(m, from, to, by);
                model.cleans.get(m).add(new int[] {from, to, by});
            }
        }
    }

    /** Two rows to begin with, often of one LANE, so that not every use of a ROW throws. */
    private void writeRows(int m) {
        int lane = random.nextInt(3);
        addAct(m, 0, 1, 1 + random.nextInt(9), 0, 0);
        addAct(m, 8, random.nextInt(2), lane, 1, 0);
        addAct(m, 8, 1 + random.nextInt(2), random.nextInt(3) > 0 ? lane : random.nextInt(3), 1, 0);
    }

    private void writeAct(int m, int methods, int count) {
        int kind = random.nextInt(3) == 0 ? 0 : random.nextInt(16);
        int b = kind == 15 ? 8 + random.nextInt(2)
            : kind == 13 ? random.nextInt(methods)
            : kind == 6 || kind == 7 ? random.nextInt(count + 2)
            : drawn(ENDS_B[kind]);
        addAct(m, kind, drawn(ENDS_A[kind]), b, drawn(ENDS_C[kind]), drawn(ENDS_D[kind]));
    }

    private int drawn(int end) {
        return end == ANY ? VALUES[random.nextInt(VALUES.length)] : random.nextInt(end);
    }

    private void addAct(int m, int kind, int a, int b, int c, int d) {
        x.act(m, kind, a, b, c, d);
        model.acts.get(m).add(new int[] {kind, a, b, c, d});
    }

    private void compareRun(Due due, String call, int[] outcomes) {
        int reserve = random.nextInt(3) == 0 ? random.nextInt(101) : random.nextInt(12);
        due.is(call + ": reserve", x.reserve(reserve), model.reserve);
        model.reserve = reserve;
        int value = VALUES[random.nextInt(VALUES.length)];
        int budget = BUDGETS[random.nextInt(BUDGETS.length)];
        int outcome = model.run(0, value, budget);
        outcomes[outcome]++;
        due.is(call + ": run", x.run(0, value, budget), outcome);
        due.latest(call, x, model.latest);
        int kept = Math.min(100, model.cleaned.size());
        for (int k = 0; k < kept; k++) {
            if (k < FIRST_COMPARED || k >= kept - LAST_COMPARED) {
                int[] clean = model.cleaned.get(k);
                due.cleaned(call, x, k, clean[0], clean[1], clean[2]);
            }
        }
        due.is(call + ": one clean more", x.cleaned(kept, 0), StepBudgets.NONE);
    }
}
