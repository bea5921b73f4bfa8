/** Writes ACTS by their names, behind the others of one METHOD. */
final class Acts {
    private final StepBudgets x;
    private final int m;

    Acts(StepBudgets x, int m) {
        this.x = x;
        this.m = m;
    }

    static Acts of(StepBudgets x, int m) {
        return new Acts(x, m);
    }

    Acts set(int n, int value) {
        return add(0, n, value, 0, 0);
    }

    /** Kinds 1 to 5. */
    Acts reckon(int kind, int n, int y, int z) {
        return add(kind, n, y, z, 0);
    }

    Acts go(int to) {
        return add(6, 0, to, 0, 0);
    }

    Acts goIf(int n, int to) {
        return add(7, n, to, 0, 0);
    }

    Acts make(int row, int lane, int n) {
        return add(8, row, lane, n, 0);
    }

    Acts put(int row, int lane, int place, int value) {
        return add(9, row, lane, place, value);
    }

    Acts get(int n, int row, int lane, int place) {
        return add(10, n, row, lane, place);
    }

    Acts size(int n, int row) {
        return add(11, n, row, 0, 0);
    }

    Acts copy(int from, int to, int n) {
        return add(12, from, to, n, 0);
    }

    Acts call(int n, int method, int row, int with) {
        return add(13, n, method, row, with);
    }

    Acts give(int n) {
        return add(14, n, 0, 0, 0);
    }

    Acts raise(int kind) {
        return add(15, 0, kind, 0, 0);
    }

    private Acts add(int kind, int a, int b, int c, int d) {
        if (x.act(m, kind, a, b, c, d) < 0) {
            throw new IllegalStateException("an ACT of kind " + kind + " was refused");
        }
        return this;
    }
}
