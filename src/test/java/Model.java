import java.util.ArrayList;
import java.util.HashSet;
import java.util.List;
import java.util.Set;

/**
 * The document once more, in another way: real arrays, and exceptions for what is thrown and
 * STOPPED, so that the Java machine itself tells the KINDS 1 to 6.
 */
final class Model {
    private static final class Thrown extends RuntimeException {
        private static final long serialVersionUID = 1L;
        final int kind;

        Thrown(int kind) {
            super(null, null, false, false);
            this.kind = kind;
        }
    }

    private static final class Stop extends RuntimeException {
        private static final long serialVersionUID = 1L;

        Stop() {
            super(null, null, false, false);
        }
    }

    private static final class End extends RuntimeException {
        private static final long serialVersionUID = 1L;

        End() {
            super(null, null, false, false);
        }
    }

    private static final class Given extends RuntimeException {
        private static final long serialVersionUID = 1L;
        final int value;

        Given(int value) {
            super(null, null, false, false);
            this.value = value;
        }
    }

    final List<List<int[]>> acts = new ArrayList<>();
    final List<List<int[]>> guards = new ArrayList<>();
    final List<List<int[]>> cleans = new ArrayList<>();
    final int[] latest = new int[9];
    final List<int[]> cleaned = new ArrayList<>();
    int reserve = 10;
    private int budget;
    private int throwsBegun;
    private boolean stopped;

    Model() {
        for (int m = 0; m < 8; m++) {
            acts.add(new ArrayList<>());
            guards.add(new ArrayList<>());
            cleans.add(new ArrayList<>());
        }
    }

    int run(int m, int x, int newBudget) {
        java.util.Arrays.fill(latest, 0);
        cleaned.clear();
        budget = newBudget;
        throwsBegun = 0;
        stopped = false;
        try {
            latest[0] = frame(m, x, null, 1, null, -1, -1);
            return 0;
        } catch (Thrown t) {
            latest[1] = t.kind;
            return 2;
        } catch (Stop | End s) {
            return 1;
        }
    }

    private void step(int n) {
        int which = stopped ? 3 : 2;
        if (latest[which] + n > (stopped ? reserve : budget)) {
            refuse();
        }
        latest[which] += n;
    }

    private void refuse() {
        if (stopped) {
            latest[7] = 1;
            throw new End();
        }
        stopped = true;
        throw new Stop();
    }

    private int frame(int m, int n0, Object r0, int depth, Set<Integer> made, int clean, int left) {
        step(1);
        if (depth == 13) {
            throw new Thrown(7);
        }
        latest[4]++;
        latest[8] = Math.max(latest[8], depth);
        if (made != null) {
            made.add(clean);
            latest[5]++;
            cleaned.add(new int[] {m, left, depth});
        }
        int[] n = {n0, 0, 0, 0, 0, 0};
        Object[] r = {r0, null, null};
        int p = 0;
        while (p < acts.get(m).size()) {
            Set<Integer> madeHere = new HashSet<>();
            try {
                int next;
                int caught = 0;
                try {
                    next = act(acts.get(m).get(p), p, n, r, depth);
                } catch (Given g) {
                    leave(m, p, -1, n, r, depth, madeHere);
                    return g.value;
                } catch (Thrown t) {
                    int[] guard = null;
                    for (int[] g : guards.get(m)) {
                        if (guard == null && p >= g[0] && p < g[1] && (g[2] == 0 || g[2] == t.kind)) {
                            guard = g;
                        }
                    }
                    if (guard == null) {
                        leave(m, p, -1, n, r, depth, madeHere);
                        throw t;
                    }
                    step(1);
                    latest[6]++;
                    caught = t.kind;
                    next = guard[3];
                }
                leave(m, p, next < acts.get(m).size() ? next : -1, n, r, depth, madeHere);
                if (caught != 0) {
                    n[5] = caught;
                }
                p = next;
            } catch (Stop s) {
                stopClean(m, p, n, r, depth, madeHere);
                throw s;
            }
        }
        return 0;
    }

    private void leave(int m, int p, int t, int[] n, Object[] r, int depth, Set<Integer> made) {
        for (int c = cleans.get(m).size() - 1; c >= 0; c--) {
            int[] clean = cleans.get(m).get(c);
            boolean holdsTarget = t >= 0 && t >= clean[0] && t < clean[1];
            if (p >= clean[0] && p < clean[1] && !holdsTarget) {
                frame(clean[2], n[0], r[0], depth + 1, made, c, m);
            }
        }
    }

    private void stopClean(int m, int p, int[] n, Object[] r, int depth, Set<Integer> made) {
        for (int c = cleans.get(m).size() - 1; c >= 0; c--) {
            int[] clean = cleans.get(m).get(c);
            if (p >= clean[0] && p < clean[1] && !made.contains(c)) {
                try {
                    frame(clean[2], n[0], r[0], depth + 1, new HashSet<>(), c, m);
                } catch (Thrown t) {
                    // what it throws is nothing
                }
            }
        }
    }

    private int act(int[] act, int p, int[] n, Object[] r, int depth) {
        int kind = act[0];
        int a = act[1];
        int b = act[2];
        int c = act[3];
        int d = act[4];
        if (kind == 6 || kind == 7 && n[a] > 0) {
            if (b <= p) {
                step(1);
            }
            return b;
        }
        if (kind == 13) {
            n[a] = frame(b, n[d], r[c], depth + 1, null, -1, -1);
        } else if (kind == 14) {
            throw new Given(n[a]);
        } else if (kind == 15) {
            throw new Thrown(b);
        } else if (kind == 8) {
            make(a, b, n[c], r);
        } else {
            machineAct(kind, act, n, r);
        }
        return p + 1;
    }

    private void make(int q, int lane, int size, Object[] r) {
        step(size >= 0 && size <= 64 ? 1 + size / 8 : 1);
        if (size > 64) {
            throw new Thrown(7);
        }
        try {
            r[q] = lane == 0 ? new byte[size] : lane == 1 ? new int[size] : new long[size];
        } catch (NegativeArraySizeException e) {
            begin(6);
        }
    }

    private void begin(int kind) {
        throwsBegun++;
        if (throwsBegun >= 25) {
            refuse();
        }
        throw new Thrown(kind);
    }

    private void machineAct(int kind, int[] act, int[] n, Object[] r) {
        try {
            plainAct(kind, act[1], act[2], act[3], act[4], n, r);
        } catch (ArithmeticException e) {
            begin(1);
        } catch (NullPointerException e) {
            begin(2);
        } catch (ClassCastException e) {
            begin(3);
        } catch (ArrayStoreException e) {
            begin(4);
        } catch (IndexOutOfBoundsException e) {
            begin(5);
        }
    }

    private void plainAct(int kind, int a, int b, int c, int d, int[] n, Object[] r) {
        switch (kind) {
            case 0: n[a] = b; break;
            case 1: n[a] = n[b] + n[c]; break;
            case 2: n[a] = n[b] - n[c]; break;
            case 3: n[a] = n[b] * n[c]; break;
            case 4: n[a] = n[b] / n[c]; break;
            case 5: n[a] = n[b] % n[c]; break;
            case 9:
                if (b == 0) {
                    ((byte[]) r[a])[n[c]] = (byte) n[d];
                } else if (b == 1) {
                    ((int[]) r[a])[n[c]] = n[d];
                } else {
                    ((long[]) r[a])[n[c]] = n[d];
                }
                break;
            case 10:
                if (c == 0) {
                    n[a] = ((byte[]) r[b])[n[d]];
                } else if (c == 1) {
                    n[a] = ((int[]) r[b])[n[d]];
                } else {
                    n[a] = (int) ((long[]) r[b])[n[d]];
                }
                break;
            case 11: n[a] = size(r[b]); break;
            case 12: System.arraycopy(r[a], 0, r[b], 0, n[c]); break;
            default: break;
        }
    }

    private static int size(Object row) {
        if (row instanceof byte[] bytes) {
            return bytes.length;
        }
        return row instanceof int[] ints ? ints.length : ((long[]) row).length;
    }
}
