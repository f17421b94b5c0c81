import java.util.NoSuchElementException;

/**
 * A machine for a small language of functions that keeps nothing which isn't needed any more.
 * The words used here (frame, step, trimmed, space, peak) are those of the document.
 */
public final class TrimmedMachine {
    private static final int VARIABLES = 8;
    private static final int OPERATIONS = 4;
    private static final int NO_SELF = -1;
    private static final int MOST_EXPRESSIONS = 100;
    private static final int MOST_HEIGHT = 10;
    private static final int MOST_CAPACITY = 120;
    private static final int MOST_STEPS = 500;

    private static final int NUMBER = 0;
    private static final int VARIABLE = 1;
    private static final int FUNCTION = 2;
    private static final int CALL = 3;
    private static final int OPERATION = 4;
    private static final int CHOICE = 5;

    private static final int PLUS = 0;
    private static final int MINUS = 1;
    private static final int TIMES = 2;

    // These numbers are what about(0) answers.
    private static final int NEVER_BEGUN = 0;
    private static final int GOES_ON = 1;
    private static final int ENDED = 2;
    private static final int FAILED = 3;

    private final Expressions expressions = new Expressions();
    private final Run run = new Run(expressions);

    public TrimmedMachine() {
    }

    public int number(int n) throws IllegalStateException {
        return addExpression(NUMBER, n, 0, 0, 0, 0);
    }

    public int variable(int v) throws IllegalArgumentException, IllegalStateException {
        requireVariable(v);
        return addExpression(VARIABLE, v, 0, 0, 1 << v, 0);
    }

    public int function(int self, int v, int body) throws IllegalArgumentException, IllegalStateException {
        if (self != NO_SELF) {
            requireVariable(self);
        }
        requireVariable(v);
        int height = heightAbove(body);
        int bound = self == NO_SELF ? 1 << v : 1 << v | 1 << self;
        return addExpression(FUNCTION, body, v, self, expressions.unbound[body] & ~bound, height);
    }

    public int call(int f, int x) throws IllegalArgumentException, IllegalStateException {
        int height = Math.max(heightAbove(f), heightAbove(x));
        int unbound = expressions.unbound[f] | expressions.unbound[x];
        return addExpression(CALL, f, x, 0, unbound, height);
    }

    public int operation(int op, int x, int y) throws IllegalArgumentException, IllegalStateException {
        if (op < 0 || op >= OPERATIONS) {
            throw new IllegalArgumentException("no such operation");
        }
        int height = Math.max(heightAbove(x), heightAbove(y));
        int unbound = expressions.unbound[x] | expressions.unbound[y];
        return addExpression(OPERATION, x, y, op, unbound, height);
    }

    public int choice(int c, int a, int b) throws IllegalArgumentException, IllegalStateException {
        int height = Math.max(heightAbove(c), Math.max(heightAbove(a), heightAbove(b)));
        int unbound = expressions.unbound[c] | expressions.unbound[a] | expressions.unbound[b];
        return addExpression(CHOICE, c, a, b, unbound, height);
    }

    public int free(int e) throws IllegalArgumentException {
        requireExpression(e);
        return expressions.unbound[e];
    }

    public void begin(int e, int capacity) throws IllegalArgumentException {
        requireExpression(e);
        if (capacity < 1 || capacity > MOST_CAPACITY) {
            throw new IllegalArgumentException("no such capacity");
        }
        run.start(e, capacity);
    }

    public int steps(int n) throws IllegalArgumentException, NoSuchElementException,
            UnsupportedOperationException, IllegalStateException {
        if (n < 1 || n > MOST_STEPS) {
            throw new IllegalArgumentException("no such number of steps");
        }
        int done = 0;
        while (done < n && run.status == GOES_ON) {
            run.step();
            done++;
        }
        return done;
    }

    public int about(int what) {
        boolean goesOn = run.status == GOES_ON;
        switch (what) {
            case 0:
                return run.status;
            case 1:
                return run.stepsDone;
            case 2:
                return goesOn ? run.space : 0;
            case 3:
                return run.peak;
            case 4:
                return goesOn ? run.frames : 0;
            case 5:
                return goesOn ? run.closures.living : 0;
            default:
                return -1;
        }
    }

    public int result() throws IllegalStateException {
        requireEnded();
        return run.result;
    }

    public boolean isClosure() throws IllegalStateException {
        requireEnded();
        return run.resultIsClosure;
    }

    private void requireVariable(int v) {
        if (v < 0 || v >= VARIABLES) {
            throw new IllegalArgumentException("no such variable");
        }
    }

    private void requireExpression(int e) {
        if (e < 0 || e >= expressions.count) {
            throw new IllegalArgumentException("no such expression");
        }
    }

    private void requireEnded() {
        if (run.status != ENDED) {
            throw new IllegalStateException("the run begun last has not ended");
        }
    }

    private int heightAbove(int part) {
        requireExpression(part);
        int height = expressions.heights[part] + 1;
        if (height > MOST_HEIGHT) {
            throw new IllegalArgumentException("too high");
        }
        return height;
    }

    private int addExpression(int kind, int first, int second, int third, int unbound, int height) {
        int e = expressions.count;
        if (e >= MOST_EXPRESSIONS) {
            throw new IllegalStateException("no room for another expression");
        }
        expressions.kinds[e] = kind;
        expressions.firsts[e] = first;
        expressions.seconds[e] = second;
        expressions.thirds[e] = third;
        expressions.unbound[e] = unbound;
        expressions.heights[e] = height;
        expressions.count = e + 1;
        return e;
    }

    /**
     * The expressions made so far. The part that is evaluated before the others stands first, so that
     * all which wait are treated alike: a CALL is f, x; an OPERATION x, y, op; a CHOICE c, a, b;
     * a FUNCTION body, variable, self; a NUMBER or VARIABLE itself.
     */
    private static final class Expressions {
        private final int[] kinds = new int[MOST_EXPRESSIONS];
        private final int[] firsts = new int[MOST_EXPRESSIONS];
        private final int[] seconds = new int[MOST_EXPRESSIONS];
        private final int[] thirds = new int[MOST_EXPRESSIONS];
        private final int[] unbound = new int[MOST_EXPRESSIONS];
        private final int[] heights = new int[MOST_EXPRESSIONS];
        private int count;
    }

    /**
     * Values are longs: an int stands for itself, and a closure is a number above all ints, so that a
     * run makes no objects however many steps it does.
     */
    private static final class Values {
        private static final long FIRST_CLOSURE = 1L << 32;

        private static long ofClosure(int slot) {
            return FIRST_CLOSURE + slot;
        }

        private static boolean standsForClosure(long value) {
            return value >= FIRST_CLOSURE;
        }

        private static int slotOf(long closure) {
            return (int) (closure - FIRST_CLOSURE);
        }
    }

    /**
     * Rows with a place for each variable: one for the state, one for each frame and one for each
     * closure. A single value (returned, or waiting in APPLY or LEFT) is a row with place 0 alone, so
     * that the places in use are the space of every row alike.
     */
    private static final class Rows {
        private static final int STATE = 0;
        private static final int FIRST_FRAME = 1;
        private static final int FIRST_CLOSURE = FIRST_FRAME + MOST_CAPACITY;
        private static final int COUNT = FIRST_CLOSURE + MOST_CAPACITY;

        private final int[] given = new int[COUNT];
        private final long[] values = new long[COUNT * VARIABLES];

        private static int ofFrame(int frame) {
            return FIRST_FRAME + frame;
        }

        private static int ofClosure(int slot) {
            return FIRST_CLOSURE + slot;
        }

        private boolean gives(int row, int place) {
            return (given[row] >>> place & 1) != 0;
        }

        private long get(int row, int place) {
            return values[row * VARIABLES + place];
        }

        private long single(int row) {
            return get(row, 0);
        }

        private void give(int row, int place, long value) {
            given[row] |= 1 << place;
            values[row * VARIABLES + place] = value;
        }

        private void setSingle(int row, long value) {
            given[row] = 0;
            give(row, 0, value);
        }

        private void copy(int from, int to) {
            given[to] = given[from];
            System.arraycopy(values, from * VARIABLES, values, to * VARIABLES, VARIABLES);
        }

        private void trim(int row, int wanted) {
            given[row] &= wanted;
        }

        private void copyTrimmed(int from, int to, int wanted) {
            copy(from, to);
            trim(to, wanted);
        }
    }

    /** The closures that the state measured last can reach; the slots of all others are used again. */
    private static final class Closures {
        private final int[] functions = new int[MOST_CAPACITY];
        private final boolean[] lives = new boolean[MOST_CAPACITY];
        private final int[] slots = new int[MOST_CAPACITY];
        private int living;

        private void forgetLiving() {
            for (int i = 0; i < living; i++) {
                lives[slots[i]] = false;
            }
            living = 0;
        }

        private void noteLiving(int slot) {
            if (!lives[slot]) {
                lives[slot] = true;
                slots[living] = slot;
                living++;
            }
        }

        private int unusedSlot() {
            int slot = 0;
            while (slot < MOST_CAPACITY && lives[slot]) {
                slot++;
            }
            return slot;
        }
    }

    /** The run that was begun last. */
    private static final class Run {
        private static final int ARGUMENT = 0;
        private static final int APPLY = 1;
        private static final int RIGHT = 2;
        private static final int LEFT = 3;
        private static final int BRANCH = 4;

        private final Expressions expressions;
        private final Rows rows = new Rows();
        private final Closures closures = new Closures();
        private final int[] frameKinds = new int[MOST_CAPACITY];
        private final int[] frameExpressions = new int[MOST_CAPACITY];
        private int frames;
        private int status = NEVER_BEGUN;
        private int capacity;
        private int stepsDone;
        private int space;
        private int peak;
        private boolean evaluates;
        private int expression;
        private int result;
        private boolean resultIsClosure;

        private Run(Expressions expressions) {
            this.expressions = expressions;
        }

        private void start(int e, int mostSpace) {
            status = GOES_ON;
            capacity = mostSpace;
            stepsDone = 0;
            frames = 0;
            peak = 0;
            rows.trim(Rows.STATE, 0);
            evaluateTrimmed(e);
            measure();
        }

        private void step() {
            if (evaluates) {
                evaluate();
            } else if (frames > 0) {
                returnToFrame();
            } else {
                end();
            }
            if (status == GOES_ON) {
                measure();
                refuseTooMuchSpace();
                peak = Math.max(peak, space);
            }
            stepsDone++;
        }

        private void evaluate() {
            int e = expression;
            switch (expressions.kinds[e]) {
                case NUMBER:
                    returnValue(expressions.firsts[e]);
                    break;
                case VARIABLE:
                    evaluateVariable(expressions.firsts[e]);
                    break;
                case FUNCTION:
                    evaluateFunction(e);
                    break;
                case CALL:
                    evaluateFirst(e, ARGUMENT, freeIn(expressions.seconds[e]));
                    break;
                case OPERATION:
                    evaluateFirst(e, RIGHT, freeIn(expressions.seconds[e]));
                    break;
                default:
                    evaluateFirst(e, BRANCH, freeIn(expressions.seconds[e]) | freeIn(expressions.thirds[e]));
                    break;
            }
        }

        private void evaluateVariable(int v) {
            if (!rows.gives(Rows.STATE, v)) {
                status = FAILED;
                throw new NoSuchElementException("a variable without a value");
            }
            returnValue(rows.get(Rows.STATE, v));
        }

        private void evaluateFunction(int e) {
            int slot = closures.unusedSlot();
            if (slot >= MOST_CAPACITY) {
                // Each closure takes space, so one more than these is above every capacity.
                status = FAILED;
                throw new IllegalStateException("more closures than any capacity");
            }
            closures.functions[slot] = e;
            rows.copyTrimmed(Rows.STATE, Rows.ofClosure(slot), freeIn(e));
            returnValue(Values.ofClosure(slot));
        }

        private void evaluateFirst(int e, int kind, int wanted) {
            if (frames >= MOST_CAPACITY) {
                // Each frame takes space, so one more than these is above every capacity.
                status = FAILED;
                throw new IllegalStateException("more frames than any capacity");
            }
            frameKinds[frames] = kind;
            frameExpressions[frames] = e;
            rows.copyTrimmed(Rows.STATE, Rows.ofFrame(frames), wanted);
            frames++;
            evaluateTrimmed(expressions.firsts[e]);
        }

        private void returnToFrame() {
            int latest = frames - 1;
            switch (frameKinds[latest]) {
                case ARGUMENT:
                    evaluateSecond(latest, APPLY);
                    break;
                case RIGHT:
                    evaluateSecond(latest, LEFT);
                    break;
                case LEFT:
                    operate(latest);
                    break;
                case BRANCH:
                    branch(latest);
                    break;
                default:
                    apply(latest);
                    break;
            }
        }

        private void evaluateSecond(int frame, int kind) {
            int row = Rows.ofFrame(frame);
            long first = rows.single(Rows.STATE);
            rows.copy(row, Rows.STATE);
            rows.setSingle(row, first);
            frameKinds[frame] = kind;
            evaluateTrimmed(expressions.seconds[frameExpressions[frame]]);
        }

        private void operate(int frame) {
            int u = needInt(rows.single(Rows.ofFrame(frame)));
            int v = needInt(rows.single(Rows.STATE));
            frames = frame;
            returnValue(operated(expressions.thirds[frameExpressions[frame]], u, v));
        }

        private void branch(int frame) {
            int v = needInt(rows.single(Rows.STATE));
            int e = frameExpressions[frame];
            frames = frame;
            rows.copy(Rows.ofFrame(frame), Rows.STATE);
            evaluateTrimmed(v != 0 ? expressions.seconds[e] : expressions.thirds[e]);
        }

        private void apply(int frame) {
            long closure = rows.single(Rows.ofFrame(frame));
            int slot = needClosure(closure);
            long argument = rows.single(Rows.STATE);
            int function = closures.functions[slot];
            int self = expressions.thirds[function];
            frames = frame;
            rows.copy(Rows.ofClosure(slot), Rows.STATE);
            rows.give(Rows.STATE, expressions.seconds[function], argument);
            if (self != NO_SELF) {
                rows.give(Rows.STATE, self, closure);
            }
            evaluateTrimmed(expressions.firsts[function]);
        }

        private void end() {
            long value = rows.single(Rows.STATE);
            resultIsClosure = Values.standsForClosure(value);
            result = resultIsClosure ? closures.functions[Values.slotOf(value)] : (int) value;
            status = ENDED;
        }

        private void returnValue(long value) {
            evaluates = false;
            rows.setSingle(Rows.STATE, value);
        }

        private void evaluateTrimmed(int e) {
            evaluates = true;
            expression = e;
            rows.trim(Rows.STATE, freeIn(e));
        }

        private int freeIn(int e) {
            return expressions.unbound[e];
        }

        private int needInt(long value) {
            if (Values.standsForClosure(value)) {
                status = FAILED;
                throw new UnsupportedOperationException("a closure in place of an int");
            }
            return (int) value;
        }

        private int needClosure(long value) {
            if (!Values.standsForClosure(value)) {
                status = FAILED;
                throw new UnsupportedOperationException("an int in place of a closure");
            }
            return Values.slotOf(value);
        }

        private static int operated(int op, int u, int v) {
            switch (op) {
                case PLUS:
                    return u + v;
                case MINUS:
                    return u - v;
                case TIMES:
                    return u * v;
                default:
                    return u < v ? 1 : 0;
            }
        }

        private void measure() {
            closures.forgetLiving();
            space = frames + lookThrough(Rows.STATE);
            for (int frame = 0; frame < frames; frame++) {
                space += lookThrough(Rows.ofFrame(frame));
            }
            // The list grows while it is gone through: what a closure holds comes behind it.
            for (int i = 0; i < MOST_CAPACITY && i < closures.living; i++) {
                space += 1 + lookThrough(Rows.ofClosure(closures.slots[i]));
            }
        }

        private int lookThrough(int row) {
            int given = rows.given[row];
            for (int place = 0; place < VARIABLES && given >>> place != 0; place++) {
                if (rows.gives(row, place) && Values.standsForClosure(rows.get(row, place))) {
                    closures.noteLiving(Values.slotOf(rows.get(row, place)));
                }
            }
            return Integer.bitCount(given);
        }

        private void refuseTooMuchSpace() {
            if (space > capacity) {
                status = FAILED;
                throw new IllegalStateException("more space than the capacity");
            }
        }
    }
}
