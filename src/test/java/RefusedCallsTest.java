import java.util.ArrayList;
import java.util.List;

/**
 * A call that is refused changes nothing: in each of many states, it is made on one of two objects that
 * are alike, and both must answer alike from then on.
 */
public final class RefusedCallsTest {
    private static final String ARGUMENT = "throws.IllegalArgumentException";
    private static final String STATE = "throws.IllegalStateException";
    private static final int LEAST = Integer.MIN_VALUE;
    private static final int MOST = Integer.MAX_VALUE;

    // Expressions that each object here has, by their numbers
    private static final int ZERO = 0; // variable 0
    private static final int FIVE = 5; // a function 5 high
    private static final int TEN = 10; // a function 10 high
    private static final int SEVEN = 11; // the number 7
    private static final int CLOSURES = 12; // (fun .) (fun .): two closures and a frame
    private static final int SUM = 13; // 7 + ((fun .) (fun .)): nine steps, then it fails by LEFT
    private static final int CALLED = 14; // 7 7: fails by APPLY
    private static final int FEW = 15;

    private static final String[] STATES = {
        "no run", "begun", "in the midst of a run", "ended with an int", "ended with a closure",
        "failed by a variable", "failed by a value", "failed by the space",
    };

    /** A call, by its name, the answer that is due, and how it is made. */
    private record Refused(String name, String due, Try call) {
    }

    private interface Try {
        Object on(TrimmedMachine m);
    }

    public static void main(String[] args) {
        int pairs = 0;
        for (int state = 0; state < STATES.length; state++) {
            for (int count = FEW; count <= 100; count += 100 - FEW) {
                for (Refused refused : refusedCalls(state, count)) {
                    pair(state, count, refused);
                    pairs++;
                }
            }
        }
        allTogether();
        System.out.println(pairs + " pairs of objects");
        Check.finish();
    }

    private static TrimmedMachine prepared(int state, int count) {
        TrimmedMachine m = new TrimmedMachine();
        m.variable(0);
        for (int height = 1; height <= 10; height++) {
            m.function(-1, height % 8, height - 1);
        }
        m.number(7);
        m.call(FIVE, FIVE);
        m.operation(0, SEVEN, CLOSURES);
        m.call(SEVEN, SEVEN);
        for (int e = FEW; e < count; e++) {
            m.number(e);
        }
        bringTo(m, state);
        return m;
    }

    private static void bringTo(TrimmedMachine m, int state) {
        int[] run = {-1, SUM, SUM, SEVEN, FIVE, ZERO, CALLED, CLOSURES};
        int[] steps = {0, 0, 6, 500, 500, 500, 500, 500};
        if (run[state] >= 0) {
            m.begin(run[state], state == 7 ? 4 : 50);
        }
        if (steps[state] > 0) {
            Check.answerOf(() -> m.steps(steps[state]));
        }
        int[] due = {0, 1, 1, 2, 2, 3, 3, 3};
        Check.same(STATES[state] + ", about(0)", m.about(0), due[state]);
    }

    private static List<Refused> refusedCalls(int state, int count) {
        List<Refused> calls = new ArrayList<>();
        int[] noVariables = {8, -2, LEAST, MOST};
        for (int v : noVariables) {
            calls.add(new Refused("variable(" + v + ")", ARGUMENT, m -> m.variable(v)));
            calls.add(new Refused("function(" + v + ", 0, 0)", ARGUMENT, m -> m.function(v, 0, 0)));
            calls.add(new Refused("function(-1, " + v + ", 0)", ARGUMENT, m -> m.function(-1, v, 0)));
            calls.add(new Refused("operation(" + v + ", 0, 0)", ARGUMENT, m -> m.operation(v, 0, 0)));
        }
        int[] noParts = {-1, count, TEN, LEAST, MOST};
        for (int part : noParts) {
            for (int place = 0; place < Parts.PLACES; place++) {
                int at = place;
                calls.add(new Refused(Parts.name(at) + " is " + part, ARGUMENT, m -> Parts.make(m, at, part)));
            }
        }
        addWrongRuns(calls, count);
        if (count == 100) {
            addFull(calls);
        }
        if (state != 3 && state != 4) {
            calls.add(new Refused("result()", STATE, TrimmedMachine::result));
            calls.add(new Refused("isClosure()", STATE, TrimmedMachine::isClosure));
        }
        return calls;
    }

    private static void addWrongRuns(List<Refused> calls, int count) {
        int[] none = {-1, count, LEAST, MOST};
        for (int e : none) {
            calls.add(new Refused("free(" + e + ")", ARGUMENT, m -> m.free(e)));
            calls.add(new Refused("begin(" + e + ", 9)", ARGUMENT, begin(e, 9)));
        }
        int[] capacities = {0, 121, -1, LEAST, MOST};
        for (int capacity : capacities) {
            calls.add(new Refused("begin(11, " + capacity + ")", ARGUMENT, begin(SEVEN, capacity)));
        }
        int[] numbers = {0, 501, -1, LEAST, MOST};
        for (int n : numbers) {
            calls.add(new Refused("steps(" + n + ")", ARGUMENT, m -> m.steps(n)));
        }
    }

    private static Try begin(int e, int capacity) {
        return m -> {
            m.begin(e, capacity);
            return "begun";
        };
    }

    private static void addFull(List<Refused> calls) {
        calls.add(new Refused("number(5) when full", STATE, m -> m.number(5)));
        calls.add(new Refused("variable(7) when full", STATE, m -> m.variable(7)));
        for (int place = 0; place < Parts.PLACES; place++) {
            int at = place;
            calls.add(new Refused(Parts.name(at) + " when full", STATE, m -> Parts.make(m, at, 0)));
        }
    }

    private static void pair(int state, int count, Refused refused) {
        String name = STATES[state] + ", " + count + " expressions, " + refused.name;
        TrimmedMachine tried = prepared(state, count);
        TrimmedMachine left = prepared(state, count);
        Check.same(name, Check.answerOf(() -> refused.call.on(tried)), refused.due);
        Check.same(name + ", once more", Check.answerOf(() -> refused.call.on(tried)), refused.due);
        likewise(name, tried, left, count);
    }

    /** Both answer alike now, in every step to the end of the run, and in a run behind it. */
    private static void likewise(String name, TrimmedMachine tried, TrimmedMachine left, int count) {
        for (int e = 0; e <= count; e++) {
            int asked = e;
            alike(name + ", free(" + e + ")", tried, left, m -> m.free(asked));
        }
        allAbout(name, tried, left);
        for (int i = 0; i < 10; i++) {
            alike(name + ", steps(1)", tried, left, m -> m.steps(1));
            allAbout(name, tried, left);
        }
        alike(name + ", the next expression", tried, left, m -> m.call(FIVE, SEVEN));
        alike(name + ", begin", tried, left, begin(SEVEN, 1));
        allAbout(name, tried, left);
        alike(name + ", steps(500)", tried, left, m -> m.steps(500));
        allAbout(name, tried, left);
    }

    private static void allAbout(String name, TrimmedMachine tried, TrimmedMachine left) {
        for (int what = -1; what <= 6; what++) {
            int asked = what;
            alike(name + ", about(" + what + ")", tried, left, m -> m.about(asked));
        }
        alike(name + ", result()", tried, left, TrimmedMachine::result);
        alike(name + ", isClosure()", tried, left, TrimmedMachine::isClosure);
    }

    private static void alike(String name, TrimmedMachine tried, TrimmedMachine left, Try call) {
        Check.same(name, Check.answerOf(() -> call.on(tried)), Check.answerOf(() -> call.on(left)));
    }

    /** All of them before one look: what one of them changed, another one could hide. */
    private static void allTogether() {
        for (int state = 0; state < STATES.length; state++) {
            TrimmedMachine tried = prepared(state, FEW);
            for (Refused refused : refusedCalls(state, FEW)) {
                Check.same(STATES[state] + ", " + refused.name, Check.answerOf(() -> refused.call.on(tried)), refused.due);
            }
            likewise(STATES[state] + ", all together", tried, prepared(state, FEW), FEW);
        }
    }
}
