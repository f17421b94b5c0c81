import java.util.NoSuchElementException;

/** Promises 9 to 13: runs, their steps, what is told about them, and their results. */
public final class RunsTest {
    private static final Class<IllegalArgumentException> ARGUMENT = IllegalArgumentException.class;
    private static final Class<IllegalStateException> STATE = IllegalStateException.class;
    private static final Class<NoSuchElementException> NO_ELEMENT = NoSuchElementException.class;
    private static final Class<UnsupportedOperationException> UNSUPPORTED = UnsupportedOperationException.class;

    public static void main(String[] args) {
        beginnings();
        wrongSteps();
        everyStateOfASum();
        everyStateOfACall();
        choosing();
        operationsOnInts();
        variableWithoutValue();
        wrongKindsOfValues();
        whatFailsFirst();
        capacities();
        framesAlone();
        framesBehindClosures();
        closuresCountOnce();
        chainOfClosures();
        selves();
        lastCallsLeaveNothing();
        results();
        aboutOthers();
        Check.finish();
    }

    private static void about(String name, TrimmedMachine m, int... due) {
        for (int what = 0; what < due.length; what++) {
            Check.same(name + ": about(" + what + ")", m.about(what), due[what]);
        }
    }

    private static void evaluates(String name, TrimmedMachine m, int e, int due) {
        m.begin(e, 120);
        m.steps(500);
        Check.same(name, Check.answerOf(m::result), due);
        Check.same(name + " is a closure", Check.answerOf(m::isClosure), false);
    }

    private static void beginnings() {
        TrimmedMachine m = new TrimmedMachine();
        int seven = m.number(7);
        m.begin(seven, 1);
        about("9: begun", m, 1, 0, 0, 0, 0, 0);
        m.steps(1);
        about("9: one step", m, 1, 1, 1, 1, 0, 0);
        int[][] wrong = {{-1, 9}, {1, 9}, {100, 9}, {0, 0}, {0, -1}, {0, 121}, {0, Integer.MIN_VALUE}, {1, 0}};
        for (int[] pair : wrong) {
            Check.fails("9: begin(" + pair[0] + ", " + pair[1] + ")", ARGUMENT, () -> {
                m.begin(pair[0], pair[1]);
                return "nothing";
            });
        }
        about("9: refused beginnings change nothing", m, 1, 1, 1, 1, 0, 0);
        m.begin(seven, 120);
        about("9: in place of the one before", m, 1, 0, 0, 0, 0, 0);
        int zero = m.variable(0);
        m.begin(m.call(m.function(-1, 0, zero), seven), 120);
        m.steps(5);
        about("9: variable 0 has a value", m, 1, 5, 1, 4, 0, 0);
        m.begin(zero, 120);
        about("9: without variables", m, 1, 0, 0, 0, 0, 0);
        Check.fails("9: without the value of the run before", NO_ELEMENT, () -> m.steps(1));
    }

    private static void wrongSteps() {
        TrimmedMachine m = new TrimmedMachine();
        int[] wrong = {0, -1, 501, Integer.MAX_VALUE, Integer.MIN_VALUE};
        for (int n : wrong) {
            Check.fails("10: steps(" + n + ") without a run", ARGUMENT, () -> m.steps(n));
        }
        m.begin(m.number(7), 1);
        for (int n : wrong) {
            Check.fails("10: steps(" + n + ")", ARGUMENT, () -> m.steps(n));
        }
        about("10: nothing was done", m, 1, 0, 0, 0, 0, 0);
        Check.same("10: steps(500)", m.steps(500), 2);
        Check.same("10: steps after the end", m.steps(500), 0);
        Check.fails("10: steps(0) after the end", ARGUMENT, () -> m.steps(0));
        about("10: ended", m, 2, 2, 0, 1, 0, 0);
    }

    private static void everyStateOfASum() {
        TrimmedMachine m = new TrimmedMachine();
        m.number(2);
        m.number(3);
        m.begin(m.operation(0, 0, 1), 3);
        int[][] states = {
            {1, 1, 1, 1, 1, 0}, // RIGHT waits, 2 is evaluated
            {1, 2, 2, 2, 1, 0}, // 2 is returned
            {1, 3, 2, 2, 1, 0}, // LEFT with 2 waits, 3 is evaluated
            {1, 4, 3, 3, 1, 0}, // 3 is returned
            {1, 5, 1, 3, 0, 0}, // 5 is returned
            {2, 6, 0, 3, 0, 0}, // the end
        };
        for (int[] state : states) {
            Check.same("10: steps(1)", m.steps(1), 1);
            about("11: a sum, step " + state[1], m, state);
        }
        Check.same("12: a sum", m.result(), 5);
    }

    /** (fun 0 . fun 1 . (0 - 1)) 10 3: the inner closure holds variable 0 and nothing else. */
    private static void everyStateOfACall() {
        TrimmedMachine m = new TrimmedMachine();
        int inner = m.function(-1, 1, m.operation(1, m.variable(0), m.variable(1)));
        int outer = m.function(-1, 0, inner);
        int call = m.call(m.call(outer, m.number(10)), m.number(3));
        m.begin(call, 120);
        int[][] states = {
            {1, 1, 1, 1, 1, 0}, // ARGUMENT 3; the inner call
            {1, 2, 2, 2, 2, 0}, // ARGUMENT 3, ARGUMENT 10; the outer function
            {1, 3, 4, 4, 2, 1}, // its closure is returned
            {1, 4, 4, 4, 2, 1}, // ARGUMENT 3, APPLY; 10
            {1, 5, 5, 5, 2, 1}, // 10 is returned
            {1, 6, 2, 5, 1, 0}, // ARGUMENT 3; the inner function with variable 0
            {1, 7, 4, 5, 1, 1}, // its closure is returned: 1 frame, 1 value, 1 closure, 1 variable that it holds
            {1, 8, 4, 5, 1, 1}, // APPLY; 3
            {1, 9, 5, 5, 1, 1}, // 3 is returned
            {1, 10, 2, 5, 0, 0}, // the difference with variables 0 and 1
            {1, 11, 3, 5, 1, 0}, // RIGHT with variable 1; variable 0 with variable 0
            {1, 12, 3, 5, 1, 0}, // 10 is returned
            {1, 13, 3, 5, 1, 0}, // LEFT with 10; variable 1 with variable 1
            {1, 14, 3, 5, 1, 0}, // 3 is returned
            {1, 15, 1, 5, 0, 0}, // 7 is returned
            {2, 16, 0, 5, 0, 0},
        };
        for (int[] state : states) {
            m.steps(1);
            about("11: a call, step " + state[1], m, state);
        }
        Check.same("12: a call", m.result(), 7);
    }

    /** (fun 0 . fun 1 . if 0 then 0 else 1) c 6: BRANCH keeps both, the branch taken only its own. */
    private static void choosing() {
        for (int c = -1; c <= 1; c++) {
            TrimmedMachine m = new TrimmedMachine();
            int zero = m.variable(0);
            int one = m.variable(1);
            int inner = m.function(-1, 1, m.choice(zero, zero, one));
            int call = m.call(m.call(m.function(-1, 0, inner), m.number(c)), m.number(6));
            m.begin(call, 120);
            m.steps(10);
            about("7: the choice", m, 1, 10, 2, 5, 0, 0);
            m.steps(1);
            about("7: BRANCH with both, c with variable 0", m, 1, 11, 4, 5, 1, 0);
            m.steps(1);
            about("7: c is returned", m, 1, 12, 4, 5, 1, 0);
            m.steps(1);
            about("7: only the branch taken", m, 1, 13, 1, 5, 0, 0);
            m.steps(500);
            Check.same("7: choice on " + c, m.result(), c == 0 ? 6 : c);
        }
    }

    private static void operationsOnInts() {
        int least = Integer.MIN_VALUE;
        int most = Integer.MAX_VALUE;
        int[][] rows = {
            {0, 2, 3, 5}, {0, most, 1, least}, {0, least, -1, most},
            {1, 2, 3, -1}, {1, least, 1, most}, {1, 0, least, least},
            {2, -4, 3, -12}, {2, most, 2, -2}, {2, 65536, 65536, 0}, {2, least, -1, least},
            {3, 2, 3, 1}, {3, 3, 3, 0}, {3, 4, 3, 0}, {3, least, most, 1}, {3, most, least, 0}, {3, -1, 0, 1},
        };
        for (int[] row : rows) {
            TrimmedMachine m = new TrimmedMachine();
            int e = m.operation(row[0], m.number(row[1]), m.number(row[2]));
            evaluates("6: operation " + row[0] + " of " + row[1] + " and " + row[2], m, e, row[3]);
        }
    }

    private static void variableWithoutValue() {
        TrimmedMachine m = new TrimmedMachine();
        int zero = m.variable(0);
        m.begin(zero, 1);
        Check.fails("10: a variable without a value", NO_ELEMENT, () -> m.steps(5));
        about("11: failed", m, 3, 0, 0, 0, 0, 0);
        Check.same("10: steps after a failure", m.steps(5), 0);
        Check.fails("12: result after a failure", STATE, m::result);
        Check.fails("13: isClosure after a failure", STATE, m::isClosure);
        int later = m.operation(0, m.number(1), zero);
        m.begin(later, 9);
        Check.fails("10: after three steps", NO_ELEMENT, () -> m.steps(500));
        about("11: the steps before it are done", m, 3, 3, 0, 2, 0, 0);
        int outside = m.call(m.function(-1, 0, m.number(1)), zero);
        m.begin(outside, 9);
        Check.fails("10: bound inside of the function alone", NO_ELEMENT, () -> m.steps(500));
        evaluates("10: a variable that isn't evaluated", m, m.choice(m.number(0), zero, m.number(4)), 4);
    }

    private static void wrongKindsOfValues() {
        TrimmedMachine m = new TrimmedMachine();
        int one = m.number(1);
        int f = m.function(-1, 0, one);
        int[] wrong = {
            m.call(one, one), m.call(one, f), m.operation(0, f, one), m.operation(3, one, f),
            m.operation(2, f, f), m.choice(f, one, one),
        };
        int[] stepsBefore = {4, 4, 4, 4, 4, 2};
        for (int i = 0; i < wrong.length; i++) {
            int e = wrong[i];
            m.begin(e, 120);
            Check.fails("10: wrong kind, expression " + e, UNSUPPORTED, () -> m.steps(500));
            Check.same("11: failed", m.about(0), 3);
            Check.same("11: steps before the failure of " + e, m.about(1), stepsBefore[i]);
            Check.same("10: after a failure", m.steps(500), 0);
        }
    }

    private static void whatFailsFirst() {
        TrimmedMachine m = new TrimmedMachine();
        int one = m.number(1);
        int none = m.variable(4);
        int f = m.function(-1, 0, one);
        m.begin(m.call(one, none), 120);
        Check.fails("10: x is evaluated before APPLY", NO_ELEMENT, () -> m.steps(500));
        m.begin(m.operation(0, f, none), 120);
        Check.fails("10: y is evaluated before LEFT", NO_ELEMENT, () -> m.steps(500));
        m.begin(m.operation(0, none, f), 120);
        Check.fails("10: x is evaluated before y", NO_ELEMENT, () -> m.steps(500));
        m.begin(m.choice(f, none, none), 120);
        Check.fails("10: BRANCH before a and b", UNSUPPORTED, () -> m.steps(500));
        m.begin(m.operation(0, f, one), 3);
        Check.fails("10: the space before LEFT", STATE, () -> m.steps(500));
        about("11: not counted for the peak", m, 3, 3, 0, 3, 0, 0);
        m.begin(m.operation(0, f, one), 4);
        Check.fails("10: LEFT with room for it", UNSUPPORTED, () -> m.steps(500));
        about("11: the peak stays", m, 3, 4, 0, 4, 0, 0);
        m.begin(none, 1);
        Check.fails("10: a failed run", NO_ELEMENT, () -> m.steps(1));
        evaluates("9: a run after a failed one", m, one, 1);
    }

    private static void capacities() {
        TrimmedMachine m = new TrimmedMachine();
        int sum = m.operation(0, m.number(2), m.number(3));
        int[] stepsBefore = {1, 3};
        for (int capacity = 1; capacity <= 2; capacity++) {
            m.begin(sum, capacity);
            Check.fails("10: capacity " + capacity, STATE, () -> m.steps(500));
            about("11: capacity " + capacity, m, 3, stepsBefore[capacity - 1], 0, capacity, 0, 0);
        }
        m.begin(sum, 3);
        Check.same("10: the peak is the capacity", m.steps(500), 6);
        // fun self 1 of 0 . 0 + self 0: a frame more for each call, without an end
        int zero = m.variable(0);
        int deep = m.function(1, 0, m.operation(0, zero, m.call(m.variable(1), zero)));
        int call = m.call(deep, m.number(1));
        for (int capacity = 1; capacity <= 120; capacity++) {
            m.begin(call, capacity);
            Check.fails("10: without an end, capacity " + capacity, STATE, () -> m.steps(500));
            Check.same("11: within the capacity", m.about(3) <= capacity, true);
            Check.same("11: near the capacity", m.about(3) >= capacity - 2, true);
        }
    }

    /**
     * fun self 1 of 0 . if 0 then self (0 - 1) + 1 else a sum of eight ones: 113 frames for the rounds, and
     * then one for each height of the sum, each with space 1 and nothing beside them.
     */
    private static void framesAlone() {
        TrimmedMachine m = new TrimmedMachine();
        int zero = m.variable(0);
        int one = m.number(1);
        int sum = one;
        for (int height = 1; height <= 7; height++) {
            sum = m.operation(0, sum, one);
        }
        int rest = m.call(m.variable(1), m.operation(1, zero, one));
        int f = m.function(1, 0, m.choice(zero, m.operation(0, rest, one), sum));
        m.begin(m.call(f, m.number(113)), 120);
        // 5 steps to the first choice, 13 for each round, 3 to the sum
        int before = 5 + 13 * 113 + 3;
        int done = m.steps(500) + m.steps(500) + m.steps(before - 1000);
        Check.same("10: steps to the sum", done, before);
        about("11: the sum", m, 1, before, 113, 119, 113, 0);
        m.steps(7);
        about("11: as many frames as any capacity", m, 1, before + 7, 120, 120, 120, 0);
        Check.fails("10: no room for the int", STATE, () -> m.steps(1));
        about("11: no room for the int", m, 3, before + 7, 0, 120, 0, 0);
        m.begin(m.call(f, m.number(114)), 120);
        m.steps(500);
        m.steps(500);
        Check.fails("10: no room for one frame more", STATE, () -> { m.steps(500); return m.steps(500); });
        about("11: no room for one frame more", m, 3, before + 13 + 6, 0, 120, 0, 0);
        Check.same("10: the run is over", m.steps(1), 0);
    }

    /**
     * (fun 5 . rounds 105 + 5 1) (deep 33): deep has 33 closures waiting at once and returns one more, made
     * when all were there, which holds 1234 and deep: it must keep them when those 33 are gone and 106
     * frames have come.
     */
    private static void framesBehindClosures() {
        TrimmedMachine m = new TrimmedMachine();
        int zero = m.variable(0);
        int one = m.number(1);
        int again = m.call(m.variable(1), m.operation(1, zero, one));
        int rounds = m.function(1, 0, m.choice(zero, m.operation(0, again, one), zero));
        int same = m.function(-1, 2, m.variable(2));
        int keeper = m.function(-1, 4, m.function(-1, 3, m.choice(one, m.variable(4), m.variable(1))));
        int deep = m.function(1, 0, m.choice(zero, m.call(same, again), m.call(keeper, m.number(1234))));
        int sum = m.operation(0, m.call(rounds, m.number(105)), m.call(m.variable(5), one));
        m.begin(m.call(m.function(-1, 5, sum), m.call(deep, m.number(33))), 120);
        int mostFrames = 0;
        int mostClosures = 0;
        for (int calls = 0; calls < 150; calls++) {
            Check.answerOf(() -> m.steps(17));
            mostFrames = Math.max(mostFrames, m.about(4));
            mostClosures = Math.max(mostClosures, m.about(5));
        }
        Check.same("10: many closures", mostClosures >= 34, true);
        Check.same("10: many frames", mostFrames >= 105, true);
        Check.same("12: what it holds, and a sum of 105", Check.answerOf(m::result), 1339);
    }

    private static void closuresCountOnce() {
        TrimmedMachine m = new TrimmedMachine();
        int zero = m.variable(0);
        int same = m.function(-1, 1, m.variable(1));
        int both = m.function(-1, 0, m.call(zero, zero));
        m.begin(m.call(both, same), 120);
        m.steps(4);
        about("11: two closures", m, 1, 4, 5, 5, 1, 2);
        m.steps(1);
        about("11: one variable with a closure", m, 1, 5, 2, 5, 0, 1);
        m.steps(1);
        about("11: two variables with the same closure", m, 1, 6, 4, 5, 1, 1);
        m.steps(2);
        about("11: APPLY and a variable with the same closure", m, 1, 8, 4, 5, 1, 1);
        m.begin(m.call(same, same), 120);
        m.steps(4);
        about("11: two closures of the same function", m, 1, 4, 5, 5, 1, 2);
        // fun 2 . fun 3 . 2 holds a closure, which is counted too
        int holder = m.function(-1, 2, m.function(-1, 3, m.variable(2)));
        m.begin(m.call(holder, same), 120);
        m.steps(6);
        about("11: a closure held by a closure", m, 1, 6, 4, 5, 0, 2);
    }

    /** fun self 2 of 0 . self (fun 1 . 0 1): each round makes a closure that holds the one before. */
    private static void chainOfClosures() {
        TrimmedMachine m = new TrimmedMachine();
        int one = m.variable(1);
        int next = m.function(-1, 1, m.call(m.variable(0), one));
        int chain = m.function(2, 0, m.call(m.variable(2), next));
        m.begin(m.call(chain, m.function(-1, 1, one)), 120);
        m.steps(5);
        about("11: the first round, two closures", m, 1, 5, 4, 5, 0, 2);
        for (int round = 1; round <= 57; round++) {
            m.steps(5);
            about("11: round " + round, m, 1, 5 + 5 * round, 4 + 2 * round, 5 + 2 * round, 0, 2 + round);
        }
        m.steps(3);
        about("11: before there is no room", m, 1, 293, 119, 119, 1, 59);
        Check.fails("10: no room for one more", STATE, () -> m.steps(1));
        about("11: no room for one more", m, 3, 293, 0, 119, 0, 0);
    }

    private static void selves() {
        TrimmedMachine m = new TrimmedMachine();
        int three = m.variable(3);
        int nine = m.number(9);
        int itself = m.function(3, 3, three);
        m.begin(m.call(itself, nine), 120);
        m.steps(500);
        Check.same("4: the self before the variable", m.isClosure(), true);
        Check.same("4: the self is the closure", m.result(), itself);
        int plain = m.function(-1, 3, three);
        evaluates("4: the variable without a self", m, m.call(plain, nine), 9);
        int shadow = m.call(m.call(m.function(-1, 3, plain), m.number(1)), nine);
        evaluates("4: the inner variable before the outer one", m, shadow, 9);
        int named = m.function(5, 3, m.variable(5));
        m.begin(m.call(named, nine), 120);
        m.steps(5);
        about("10: the variable isn't used, the self is", m, 1, 5, 2, 4, 0, 1);
        m.begin(m.call(m.function(5, 3, nine), nine), 120);
        m.steps(5);
        about("10: neither is used", m, 1, 5, 0, 4, 0, 0);
    }

    /** fun self 2 of 0 . if 0 then self (0 - 1) else 7. */
    private static void lastCallsLeaveNothing() {
        TrimmedMachine m = new TrimmedMachine();
        int zero = m.variable(0);
        int again = m.call(m.variable(2), m.operation(1, zero, m.number(1)));
        int loop = m.function(2, 0, m.choice(zero, again, m.number(7)));
        int[] rounds = {1, 9, 30};
        for (int round : rounds) {
            m.begin(m.call(loop, m.number(round)), 6);
            Check.same("10: steps of " + round + " rounds", m.steps(500), 5 + 12 * round + 5);
            about("11: " + round + " rounds in the same space", m, 2, 10 + 12 * round, 0, 6, 0, 0);
            Check.same("12: result", m.result(), 7);
        }
        m.begin(m.call(loop, m.number(-1)), 6);
        for (int i = 0; i < 100; i++) {
            Check.same("10: a loop goes on", m.steps(500), 500);
        }
        about("11: a loop goes on", m, 1, 50000);
        Check.same("11: its peak", m.about(3), 6);
    }

    private static void results() {
        TrimmedMachine m = new TrimmedMachine();
        int eight = m.number(-8);
        int f = m.function(-1, 0, eight);
        m.begin(f, 2);
        Check.fails("12: before the end", STATE, m::result);
        m.steps(1);
        about("11: a closure is returned", m, 1, 1, 2, 2, 0, 1);
        Check.fails("12: returned, but not ended", STATE, m::result);
        Check.fails("13: returned, but not ended", STATE, m::isClosure);
        m.steps(1);
        about("11: ended with a closure", m, 2, 2, 0, 2, 0, 0);
        Check.same("12: the function's number", m.result(), f);
        Check.same("13: a closure", m.isClosure(), true);
        Check.fails("9: refused", ARGUMENT, () -> { m.begin(f, 0); return "nothing"; });
        Check.same("12: it stays after a beginning that was refused", m.result(), f);
        m.number(0);
        Check.same("12: it stays after a new expression", m.result(), f);
        m.begin(eight, 2);
        Check.fails("12: another one was begun", STATE, m::result);
        Check.fails("13: another one was begun", STATE, m::isClosure);
        m.steps(2);
        Check.same("12: the int", m.result(), -8);
        Check.same("13: an int", m.isClosure(), false);
        m.begin(f, 1);
        Check.fails("10: no room for the closure", STATE, () -> m.steps(1));
        about("11: no room", m, 3, 0, 0, 0, 0, 0);
        Check.fails("12: the last one failed", STATE, m::result);
    }

    private static void aboutOthers() {
        TrimmedMachine m = new TrimmedMachine();
        int[] others = {-1, 6, 7, 100, Integer.MAX_VALUE, Integer.MIN_VALUE};
        for (int what : others) {
            Check.same("11: about(" + what + ") without a run", m.about(what), -1);
        }
        m.begin(m.number(1), 1);
        for (int what : others) {
            Check.same("11: about(" + what + ")", m.about(what), -1);
        }
    }
}
