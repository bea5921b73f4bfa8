import java.util.ArrayList;
import java.util.Arrays;

/**
 * Small programs whose steps are counted. The capital words are those of the document: a run has a
 * BUDGET of STEPS; where it is used up the run is STOPPED, and what cleans up has a RESERVE.
 */
public final class StepBudgets {
    public static final int BAD = -1, FULL = -2, NONE = -3;

    private static final int METHODS = 8;
    private static final int MOST_ACTS = 48;
    private static final int MOST_HOLDS = 6;
    private static final int NUMBERS = 6;
    private static final int ROWS = 3;
    private static final int LANES = 3;
    private static final int MOST_BUDGET = 500;
    private static final int MOST_RESERVE = 100;
    private static final int FIRST_RESERVE = 10;

    /** Where a METHOD is when it is out of its ACTS: no GUARD and no CLEAN can hold this number. */
    private static final int OUT = MOST_ACTS;

    private static final int ARITHMETIC = 1, NULL = 2, CAST = 3, STORE = 4, INDEX = 5, SIZE = 6, ROOM = 7;
    private static final int LOWEST_OWN = 8, HIGHEST_KIND = 9;

    private final Machine machine;
    private int reserveSteps;

    public StepBudgets() {
        machine = new Machine();
        reserveSteps = FIRST_RESERVE;
    }

    public int act(int m, int kind, int a, int b, int c, int d) {
        if (!within(m, METHODS) || !Act.isAsTold(kind, a, b, c, d)) {
            return BAD;
        }
        ArrayList<Act> acts = machine.methods[m].acts;
        if (acts.size() >= MOST_ACTS) {
            return FULL;
        }
        acts.add(new Act(kind, a, b, c, d));
        return acts.size() - 1;
    }

    public int guard(int m, int from, int to, int kind, int at) {
        if (!within(m, METHODS) || !isSpan(from, to)) {
            return BAD;
        }
        if (!within(kind, HIGHEST_KIND + 1) || !within(at, MOST_ACTS + 1)) {
            return BAD;
        }
        ArrayList<Guard> guards = machine.methods[m].guards;
        if (guards.size() >= MOST_HOLDS) {
            return FULL;
        }
        guards.add(new Guard(from, to, kind, at));
        return guards.size() - 1;
    }

    public int clean(int m, int from, int to, int by) {
        if (!within(m, METHODS) || !isSpan(from, to) || !within(by, METHODS)) {
            return BAD;
        }
        ArrayList<Clean> cleans = machine.methods[m].cleans;
        if (cleans.size() >= MOST_HOLDS) {
            return FULL;
        }
        cleans.add(new Clean(from, to, by));
        return cleans.size() - 1;
    }

    public int clear(int m) {
        if (!within(m, METHODS)) {
            return BAD;
        }
        int had = machine.methods[m].acts.size();
        machine.methods[m].forget();
        return had;
    }

    public int reserve(int n) {
        if (!within(n, MOST_RESERVE + 1)) {
            return BAD;
        }
        int was = reserveSteps;
        reserveSteps = n;
        return was;
    }

    public int run(int m, int x, int budget) {
        if (!within(m, METHODS) || !within(budget, MOST_BUDGET + 1)) {
            return BAD;
        }
        return machine.start(m, x, budget, reserveSteps);
    }

    public int latest(int what) {
        switch (what) {
            case 0: return machine.report.gave;
            case 1: return machine.report.threw;
            case 2: return machine.meter.inBudget;
            case 3: return machine.meter.inReserve;
            case 4: return machine.report.frames;
            case 5: return machine.report.cleans;
            case 6: return machine.report.guards;
            case 7: return machine.meter.overrun ? 1 : 0;
            case 8: return machine.report.deepest;
            default: return BAD;
        }
    }

    public int cleaned(int k, int what) {
        if (k < 0 || !within(what, Report.PARTS)) {
            return BAD;
        }
        return machine.report.cleanPart(k, what);
    }

    public int told(int m, int what) {
        if (!within(m, METHODS)) {
            return BAD;
        }
        switch (what) {
            case 0: return machine.methods[m].acts.size();
            case 1: return machine.methods[m].guards.size();
            case 2: return machine.methods[m].cleans.size();
            default: return BAD;
        }
    }

    private static boolean within(int number, int end) {
        return number >= 0 && number < end;
    }

    private static boolean isSpan(int from, int to) {
        return within(from, MOST_ACTS + 1) && within(to, MOST_ACTS + 1) && from < to;
    }

    /** How an ACT, or a whole FRAME, came to its end. */
    private enum Outcome {
        GOES_ON, GAVE, THREW,
        /** The BUDGET is used up: every FRAME on the way out is cleaned up with the RESERVE. */
        STOPPED,
        /** The RESERVE is used up, too: nothing more is run on the way out. */
        ENDED
    }

    private record Act(int kind, int a, int b, int c, int d) {
        static final int SET = 0, ADD = 1, LESS = 2, TIMES = 3, OVER = 4, REST = 5, GO = 6, IF = 7;
        static final int NEW = 8, PUT = 9, GET = 10, SIZE_OF = 11, COPY = 12, CALL = 13, GIVE = 14, THROW = 15;
        static final int KINDS = 16;

        private static final int ANY = 0;

        // For each kind what its numbers a, b, c, d must stay below; ANY where it is not looked at.
        private static final int[] ENDS_A = {
            NUMBERS, NUMBERS, NUMBERS, NUMBERS, NUMBERS, NUMBERS, ANY, NUMBERS,
            ROWS, ROWS, NUMBERS, NUMBERS, ROWS, NUMBERS, NUMBERS, ANY};
        private static final int[] ENDS_B = {
            ANY, NUMBERS, NUMBERS, NUMBERS, NUMBERS, NUMBERS, MOST_ACTS + 1, MOST_ACTS + 1,
            LANES, LANES, ROWS, ROWS, ROWS, METHODS, ANY, HIGHEST_KIND + 1};
        private static final int[] ENDS_C = {
            ANY, NUMBERS, NUMBERS, NUMBERS, NUMBERS, NUMBERS, ANY, ANY,
            NUMBERS, NUMBERS, LANES, ANY, NUMBERS, ROWS, ANY, ANY};
        private static final int[] ENDS_D = {
            ANY, ANY, ANY, ANY, ANY, ANY, ANY, ANY,
            ANY, NUMBERS, NUMBERS, ANY, ANY, NUMBERS, ANY, ANY};

        static boolean isAsTold(int kind, int a, int b, int c, int d) {
            if (!within(kind, KINDS) || (kind == THROW && b < LOWEST_OWN)) {
                return false;
            }
            return fits(a, ENDS_A[kind]) && fits(b, ENDS_B[kind]) && fits(c, ENDS_C[kind]) && fits(d, ENDS_D[kind]);
        }

        private static boolean fits(int number, int end) {
            return end == ANY || within(number, end);
        }
    }

    private record Guard(int from, int to, int kind, int at) {
        boolean catches(int act, int thrown) {
            return from <= act && act < to && (kind == 0 || kind == thrown);
        }
    }

    private record Clean(int from, int to, int by) {
        boolean holds(int act) {
            return from <= act && act < to;
        }
    }

    private static final class Method {
        final ArrayList<Act> acts = new ArrayList<>();
        final ArrayList<Guard> guards = new ArrayList<>();
        final ArrayList<Clean> cleans = new ArrayList<>();

        void forget() {
            acts.clear();
            guards.clear();
            cleans.clear();
        }

        /** The number of the first GUARD for what an ACT throws, or NONE. */
        int guardFor(int act, int thrown) {
            for (int g = 0; g < guards.size(); g++) {
                if (guards.get(g).catches(act, thrown)) {
                    return g;
                }
            }
            return NONE;
        }
    }

    private static final class Frame {
        final int[] numbers = new int[NUMBERS];
        final int[] rows = new int[ROWS];
        int method;
        int at;
        int next;
        /** A bit for each CLEAN whose FRAME was made in LEAVING the ACT at which this FRAME is. */
        int cleanedBy;

        void begin(int m, int number, int row) {
            Arrays.fill(numbers, 0);
            Arrays.fill(rows, NONE);
            numbers[0] = number;
            rows[0] = row;
            method = m;
            at = 0;
            next = 0;
            cleanedBy = 0;
        }
    }

    /**
     * The arrays of one run, side by side in one, so that a run makes no objects. A LONG only ever
     * takes ints and only its lowest 32 bits are told, so that an int holds a place of any LANE.
     */
    private static final class Rows {
        static final int LONGEST = 64;
        static final int PLACES_A_STEP = 8;
        private static final int BYTE = 0;

        // A NEW takes 1 + places / 8 STEPS, so these can't be outrun.
        private static final int MOST_ROWS = MOST_BUDGET + MOST_RESERVE;
        private static final int MOST_PLACES = PLACES_A_STEP * MOST_ROWS;

        private final int[] places = new int[MOST_PLACES];
        private final int[] starts = new int[MOST_ROWS];
        private final int[] sizes = new int[MOST_ROWS];
        private final int[] lanes = new int[MOST_ROWS];
        private int count;
        private int used;

        void forget() {
            count = 0;
            used = 0;
        }

        int add(int lane, int size) {
            if (count >= MOST_ROWS || size < 0 || size > MOST_PLACES - used) {
                return NONE;
            }
            Arrays.fill(places, used, used + size, 0);
            starts[count] = used;
            sizes[count] = size;
            lanes[count] = lane;
            used += size;
            count++;
            return count - 1;
        }

        private boolean has(int row) {
            return within(row, count);
        }

        /** How many places, or NONE. */
        int size(int row) {
            return has(row) ? sizes[row] : NONE;
        }

        /** The KIND thrown for the use of a place of a ROW taken for one of a LANE; 0 where there is none. */
        int placeFault(int row, int lane, int place) {
            if (!has(row)) {
                return NULL;
            }
            if (lanes[row] != lane) {
                return CAST;
            }
            return within(place, sizes[row]) ? 0 : INDEX;
        }

        /** Only for a place without a fault. */
        void put(int row, int place, int value) {
            places[starts[row] + place] = lanes[row] == BYTE ? (byte) value : value;
        }

        /** Only for a place without a fault. */
        int get(int row, int place) {
            return places[starts[row] + place];
        }

        /** The KIND thrown for a COPY; 0 where there is none. */
        int copyFault(int from, int to, int size) {
            if (!has(from) || !has(to)) {
                return NULL;
            }
            if (lanes[from] != lanes[to]) {
                return STORE;
            }
            return size < 0 || size > sizes[from] || size > sizes[to] ? INDEX : 0;
        }

        /** Only for a COPY without a fault. */
        void copy(int from, int to, int size) {
            System.arraycopy(places, starts[from], places, starts[to], size);
        }
    }

    /** Counts the STEPS of a run, and the THROWS that are as a STEP too many. */
    private static final class Meter {
        private static final int MOST_THROWS = 24;

        int inBudget;
        int inReserve;
        boolean overrun;
        private int budget;
        private int reserve;
        private int throwsBegun;
        private boolean stopped;

        void begin(int newBudget, int newReserve) {
            budget = newBudget;
            reserve = newReserve;
            inBudget = 0;
            inReserve = 0;
            throwsBegun = 0;
            stopped = false;
            overrun = false;
        }

        /** Counts all of these STEPS or none. */
        Outcome count(int steps) {
            int counted = stopped ? inReserve : inBudget;
            if (counted + steps > (stopped ? reserve : budget)) {
                return refuse();
            }
            if (stopped) {
                inReserve += steps;
            } else {
                inBudget += steps;
            }
            return Outcome.GOES_ON;
        }

        Outcome countThrow() {
            if (throwsBegun >= MOST_THROWS) {
                return refuse();
            }
            throwsBegun++;
            return Outcome.GOES_ON;
        }

        private Outcome refuse() {
            if (stopped) {
                overrun = true;
                return Outcome.ENDED;
            }
            stopped = true;
            return Outcome.STOPPED;
        }
    }

    /** What is told of the latest run, beside its STEPS. */
    private static final class Report {
        static final int PARTS = 3;
        private static final int MOST_KEPT = 100;

        int gave;
        int threw;
        int frames;
        int cleans;
        int guards;
        int deepest;
        private final int[] kept = new int[MOST_KEPT * PARTS];

        void begin() {
            gave = 0;
            threw = 0;
            frames = 0;
            cleans = 0;
            guards = 0;
            deepest = 0;
        }

        void noteFrame(int depth) {
            frames++;
            deepest = Math.max(deepest, depth);
        }

        void noteClean(int by, int left, int depth) {
            if (cleans < MOST_KEPT) {
                kept[cleans * PARTS] = by;
                kept[cleans * PARTS + 1] = left;
                kept[cleans * PARTS + 2] = depth;
            }
            cleans++;
        }

        int cleanPart(int k, int part) {
            if (!within(k, Math.min(cleans, MOST_KEPT)) || !within(part, PARTS)) {
                return NONE;
            }
            return kept[k * PARTS + part];
        }
    }

    /** Runs METHODS: a FRAME is performed by methods that call one another, its depth carried along. */
    private static final class Machine {
        private static final int DEEPEST = 12;
        private static final int KIND_NUMBER = 5;

        // The STEPS end every FRAME far sooner.
        private static final int MOST_TURNS = 1_000_000;

        private static final int IT_GAVE = 0, IT_WAS_STOPPED = 1, IT_THREW = 2;

        final Report report = new Report();
        final Meter meter = new Meter();
        final Method[] methods = new Method[METHODS];
        private final Rows rows = new Rows();
        private final Frame[] frames = new Frame[DEEPEST];
        /** What the METHOD that ended last gave. */
        private int given;
        /** The KIND of what was thrown last. */
        private int thrown;

        Machine() {
            for (int m = 0; m < METHODS; m++) {
                methods[m] = new Method();
            }
            for (int i = 0; i < DEEPEST; i++) {
                frames[i] = new Frame();
            }
        }

        int start(int m, int x, int budget, int reserve) {
            report.begin();
            rows.forget();
            meter.begin(budget, reserve);
            Outcome outcome = callFrame(m, x, NONE, 1);
            if (outcome == Outcome.GAVE) {
                report.gave = given;
                return IT_GAVE;
            }
            if (outcome == Outcome.THREW) {
                report.threw = thrown;
                return IT_THREW;
            }
            return IT_WAS_STOPPED;
        }

        private Outcome callFrame(int m, int number, int row, int depth) {
            Outcome made = makeFrame(m, number, row, depth);
            return made == Outcome.GOES_ON ? performFrame(depth) : made;
        }

        /** GOES_ON if the FRAME was made. Its STEP is counted first, also where it is one too deep. */
        private Outcome makeFrame(int m, int number, int row, int depth) {
            Outcome counted = meter.count(1);
            if (counted != Outcome.GOES_ON) {
                return counted;
            }
            if (depth > DEEPEST) {
                return raise(ROOM);
            }
            frames[depth - 1].begin(m, number, row);
            report.noteFrame(depth);
            return Outcome.GOES_ON;
        }

        private Outcome performFrame(int depth) {
            Frame frame = frames[depth - 1];
            int acts = methods[frame.method].acts.size();
            Outcome outcome = Outcome.GOES_ON;
            for (int turn = 0; turn < MOST_TURNS && outcome == Outcome.GOES_ON && frame.at < acts; turn++) {
                outcome = performAct(frame, depth);
            }
            if (outcome == Outcome.GOES_ON) {
                given = 0;
                return Outcome.GAVE;
            }
            return outcome == Outcome.STOPPED ? cleanStopped(frame, depth) : outcome;
        }

        private Outcome performAct(Frame frame, int depth) {
            frame.next = frame.at + 1;
            frame.cleanedBy = 0;
            Outcome done = doAct(frame, methods[frame.method].acts.get(frame.at), depth);
            if (done == Outcome.GOES_ON) {
                return goOn(frame, frame.next, depth);
            }
            if (done == Outcome.GAVE) {
                return giveOut(frame, given, depth);
            }
            return done == Outcome.THREW ? answerThrow(frame, thrown, depth) : done;
        }

        private Outcome goOn(Frame frame, int next, int depth) {
            int target = next < methods[frame.method].acts.size() ? next : OUT;
            Outcome left = leave(frame, target, depth);
            if (left == Outcome.GOES_ON) {
                frame.at = target;
            }
            return left;
        }

        // The CLEANS run in LEAVING give and throw on their own: hence the value is handed in and set again.
        private Outcome giveOut(Frame frame, int value, int depth) {
            Outcome left = leave(frame, OUT, depth);
            if (left != Outcome.GOES_ON) {
                return left;
            }
            given = value;
            return Outcome.GAVE;
        }

        private Outcome throwOut(Frame frame, int kind, int depth) {
            Outcome left = leave(frame, OUT, depth);
            if (left != Outcome.GOES_ON) {
                return left;
            }
            thrown = kind;
            return Outcome.THREW;
        }

        private Outcome answerThrow(Frame frame, int kind, int depth) {
            Method method = methods[frame.method];
            int guard = method.guardFor(frame.at, kind);
            if (guard == NONE) {
                return throwOut(frame, kind, depth);
            }
            Outcome counted = meter.count(1);
            if (counted != Outcome.GOES_ON) {
                return counted;
            }
            report.guards++;
            Outcome entered = goOn(frame, method.guards.get(guard).at(), depth);
            if (entered == Outcome.GOES_ON) {
                frame.numbers[KIND_NUMBER] = kind;
            }
            return entered;
        }

        /** GOES_ON if the CLEANS on the way from the FRAME's ACT to the target all came to their end. */
        private Outcome leave(Frame frame, int target, int depth) {
            ArrayList<Clean> cleans = methods[frame.method].cleans;
            for (int c = cleans.size() - 1; c >= 0; c--) {
                Clean clean = cleans.get(c);
                if (clean.holds(frame.at) && !clean.holds(target)) {
                    Outcome outcome = cleanFrame(frame, c, depth);
                    if (outcome != Outcome.GAVE) {
                        return outcome;
                    }
                }
            }
            return Outcome.GOES_ON;
        }

        /** What these CLEANS throw is nothing; only the end of the RESERVE keeps the others from being run. */
        private Outcome cleanStopped(Frame frame, int depth) {
            ArrayList<Clean> cleans = methods[frame.method].cleans;
            int doneInLeaving = frame.cleanedBy;
            for (int c = cleans.size() - 1; c >= 0; c--) {
                boolean done = (doneInLeaving >> c & 1) == 1;
                if (!done && cleans.get(c).holds(frame.at) && cleanFrame(frame, c, depth) == Outcome.ENDED) {
                    return Outcome.ENDED;
                }
            }
            return Outcome.STOPPED;
        }

        private Outcome cleanFrame(Frame frame, int c, int depth) {
            int by = methods[frame.method].cleans.get(c).by();
            Outcome made = makeFrame(by, frame.numbers[0], frame.rows[0], depth + 1);
            if (made != Outcome.GOES_ON) {
                return made;
            }
            frame.cleanedBy |= 1 << c;
            report.noteClean(by, frame.method, depth + 1);
            return performFrame(depth + 1);
        }

        /** Begins a THROW: those of the lower KINDS are counted, and the run is STOPPED at one too many. */
        private Outcome raise(int kind) {
            if (kind < ROOM) {
                Outcome counted = meter.countThrow();
                if (counted != Outcome.GOES_ON) {
                    return counted;
                }
            }
            thrown = kind;
            return Outcome.THREW;
        }

        private Outcome doAct(Frame frame, Act act, int depth) {
            switch (act.kind()) {
                case Act.SET: return setNumber(frame, act.a(), act.b());
                case Act.ADD:
                case Act.LESS:
                case Act.TIMES: return reckon(frame, act);
                case Act.OVER:
                case Act.REST: return divide(frame, act);
                case Act.GO: return jump(frame, act.b());
                case Act.IF: return frame.numbers[act.a()] > 0 ? jump(frame, act.b()) : Outcome.GOES_ON;
                case Act.NEW: return newRow(frame, act);
                case Act.PUT: return putPlace(frame, act);
                case Act.GET: return getPlace(frame, act);
                case Act.SIZE_OF: return tellSize(frame, act);
                case Act.COPY: return copyPlaces(frame, act);
                case Act.CALL: return callMethod(frame, act, depth);
                case Act.GIVE:
                    given = frame.numbers[act.a()];
                    return Outcome.GAVE;
                default: return raise(act.b());
            }
        }

        private Outcome setNumber(Frame frame, int x, int value) {
            frame.numbers[x] = value;
            return Outcome.GOES_ON;
        }

        private Outcome reckon(Frame frame, Act act) {
            int y = frame.numbers[act.b()];
            int z = frame.numbers[act.c()];
            if (act.kind() == Act.ADD) {
                return setNumber(frame, act.a(), y + z);
            }
            return setNumber(frame, act.a(), act.kind() == Act.LESS ? y - z : y * z);
        }

        private Outcome divide(Frame frame, Act act) {
            int y = frame.numbers[act.b()];
            int z = frame.numbers[act.c()];
            if (z == 0) {
                return raise(ARITHMETIC);
            }
            return setNumber(frame, act.a(), act.kind() == Act.OVER ? y / z : y % z);
        }

        private Outcome jump(Frame frame, int target) {
            if (target <= frame.at) {
                Outcome counted = meter.count(1);
                if (counted != Outcome.GOES_ON) {
                    return counted;
                }
            }
            frame.next = target;
            return Outcome.GOES_ON;
        }

        private Outcome newRow(Frame frame, Act act) {
            int size = frame.numbers[act.c()];
            boolean canBe = size >= 0 && size <= Rows.LONGEST;
            Outcome counted = meter.count(canBe ? 1 + size / Rows.PLACES_A_STEP : 1);
            if (counted != Outcome.GOES_ON) {
                return counted;
            }
            if (!canBe) {
                return raise(size < 0 ? SIZE : ROOM);
            }
            frame.rows[act.a()] = rows.add(act.b(), size);
            return Outcome.GOES_ON;
        }

        private Outcome putPlace(Frame frame, Act act) {
            int row = frame.rows[act.a()];
            int place = frame.numbers[act.c()];
            int fault = rows.placeFault(row, act.b(), place);
            if (fault != 0) {
                return raise(fault);
            }
            rows.put(row, place, frame.numbers[act.d()]);
            return Outcome.GOES_ON;
        }

        private Outcome getPlace(Frame frame, Act act) {
            int row = frame.rows[act.b()];
            int place = frame.numbers[act.d()];
            int fault = rows.placeFault(row, act.c(), place);
            return fault != 0 ? raise(fault) : setNumber(frame, act.a(), rows.get(row, place));
        }

        private Outcome tellSize(Frame frame, Act act) {
            int size = rows.size(frame.rows[act.b()]);
            return size == NONE ? raise(NULL) : setNumber(frame, act.a(), size);
        }

        private Outcome copyPlaces(Frame frame, Act act) {
            int from = frame.rows[act.a()];
            int to = frame.rows[act.b()];
            int size = frame.numbers[act.c()];
            int fault = rows.copyFault(from, to, size);
            if (fault != 0) {
                return raise(fault);
            }
            rows.copy(from, to, size);
            return Outcome.GOES_ON;
        }

        private Outcome callMethod(Frame frame, Act act, int depth) {
            Outcome ended = callFrame(act.b(), frame.numbers[act.d()], frame.rows[act.c()], depth + 1);
            return ended == Outcome.GAVE ? setNumber(frame, act.a(), given) : ended;
        }
    }
}
