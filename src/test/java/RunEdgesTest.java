import java.util.NoSuchElementException;

/** The sentences of promises 9 to 13 that name an edge, each with a test of its own. */
public final class RunEdgesTest {
    private static final Class<IllegalArgumentException> ARGUMENT = IllegalArgumentException.class;
    private static final Class<IllegalStateException> STATE = IllegalStateException.class;
    private static final Class<NoSuchElementException> NO_ELEMENT = NoSuchElementException.class;
    private static final int LEAST = Integer.MIN_VALUE;
    private static final int MOST = Integer.MAX_VALUE;

    public static void main(String[] args) {
        beginning();
        doingSteps();
        tellingAbout();
        results();
        Check.sentence("An object is used for at most 512 calls after it has been made", RunEdgesTest::lastCalls);
        Check.finish();
    }

    private static void beginning() {
        Check.sentence("Begins a run of an expression, in place of the one before.", RunEdgesTest::inPlaceOf);
        Check.sentence("Throws IllegalArgumentException when there is no such expression",
            RunEdgesTest::beginOfNone);
        Check.sentence("capacity is not 1 .. 120", RunEdgesTest::capacities);
    }

    private static void doingSteps() {
        Check.sentence("Up to n (1 .. 500) steps, until the run ends: how many were done.", RunEdgesTest::upToN);
        Check.sentence("0 when no run goes on.", RunEdgesTest::noRunGoesOn);
        Check.sentence("Throws IllegalArgumentException when n is not so", RunEdgesTest::wrongN);
        Check.sentence("what a step throws (the steps before it are done, and the run has failed)",
            RunEdgesTest::whatAStepThrows);
    }

    private static void tellingAbout() {
        Check.sentence("0 whether it goes on (1), ended (2), or failed (3; 0 when there was none)",
            RunEdgesTest::aboutStatus);
        Check.sentence("1 its steps (those that threw not counted)", RunEdgesTest::aboutSteps);
        Check.sentence("2 the space of its state now, 3 its peak, 4 its frames, 5 the closures that are counted for the space",
            RunEdgesTest::aboutState);
        Check.sentence("2, 4 and 5 are 0 when it doesn't go on", RunEdgesTest::aboutOver);
        Check.sentence("-1 for any other number", RunEdgesTest::aboutOthers);
    }

    private static void results() {
        Check.sentence("the int, or for a closure the number of its function", RunEdgesTest::intOrFunction);
        Check.sentence("Throws IllegalStateException when none did", RunEdgesTest::noneEnded);
        Check.sentence("or another one was begun since", RunEdgesTest::anotherWasBegun);
        Check.sentence("Whether that result is a closure.", RunEdgesTest::closureOrInt);
    }

    private static void about(String name, TrimmedMachine m, int... due) {
        for (int what = 0; what < due.length; what++) {
            Check.same(name + ", about(" + what + ")", m.about(what), due[what]);
        }
    }

    private static Check.Call begin(TrimmedMachine m, int e, int capacity) {
        return () -> {
            m.begin(e, capacity);
            return "begun";
        };
    }

    private static void noResult(String name, TrimmedMachine m) {
        Check.fails(name + ", result()", STATE, m::result);
        Check.fails(name + ", isClosure()", STATE, m::isClosure);
    }

    /** (fun self 2 of 0 . if 0 then self (0 - 1) else last) rounds: last is evaluated behind 12 * rounds + 8 steps. */
    private static int loop(TrimmedMachine m, int rounds, int last) {
        int zero = m.variable(0);
        int again = m.call(m.variable(2), m.operation(1, zero, m.number(1)));
        return m.call(m.function(2, 0, m.choice(zero, again, last)), m.number(rounds));
    }

    /** A run that ends with its step 12 * rounds + 10 + 4 * sums + 3 * choices, and the int 7. */
    private static int counted(TrimmedMachine m, int rounds, int sums, int choices) {
        int e = loop(m, rounds, m.number(7));
        int nothing = m.number(0);
        int always = m.number(1);
        for (int i = 0; i < sums; i++) {
            e = m.operation(0, e, nothing);
        }
        for (int i = 0; i < choices; i++) {
            e = m.choice(always, e, nothing);
        }
        return e;
    }

    private static void inPlaceOf() {
        TrimmedMachine m = new TrimmedMachine();
        int one = m.number(1);
        int f = m.function(-1, 0, one);
        int goesOn = m.operation(0, m.call(f, f), one);
        int[] before = {goesOn, one, f, m.variable(0), m.call(one, one)};
        int[] statuses = {1, 2, 2, 3, 3};
        for (int i = 0; i < before.length; i++) {
            m.begin(before[i], 120);
            Check.answerOf(() -> m.steps(5));
            Check.same("the one before", m.about(0), statuses[i]);
            m.begin(one, 1);
            about("begun", m, 1, 0, 0, 0, 0, 0);
            noResult("begun", m);
            Check.same("its steps", m.steps(500), 2);
            about("ended", m, 2, 2, 0, 1, 0, 0);
            Check.same("its result", m.result(), 1);
            Check.same("which is an int", m.isClosure(), false);
        }
        m.begin(goesOn, 120);
        m.steps(3);
        m.begin(goesOn, 120);
        about("the same one again starts anew", m, 1, 0, 0, 0, 0, 0);
        // The capacity is the new run's, whether it is smaller or greater than the one before.
        m.begin(f, 1);
        Check.fails("too small", STATE, () -> m.steps(1));
        m.begin(f, 2);
        Check.same("just enough", Check.answerOf(() -> m.steps(2)), 2);
        m.begin(f, 1);
        Check.fails("too small again", STATE, () -> m.steps(1));
    }

    private static void beginOfNone() {
        TrimmedMachine m = new TrimmedMachine();
        Check.fails("without expressions", ARGUMENT, begin(m, 0, 1));
        m.number(3);
        int[] none = {-1, 1, 2, 99, 100, 256, LEAST, MOST};
        for (int e : none) {
            Check.fails("begin(" + e + ", 1)", ARGUMENT, begin(m, e, 1));
            Check.fails("begin(" + e + ", 120)", ARGUMENT, begin(m, e, 120));
        }
        Check.same("no run was begun", m.about(0), 0);
        Parts.fill(m, 1);
        Check.same("begin(99, 1) of 100", Check.answerOf(begin(m, 99, 1)), "begun");
        Check.fails("begin(100, 1) of 100", ARGUMENT, begin(m, 100, 1));
        Check.fails("begin(-1, 1) of 100", ARGUMENT, begin(m, -1, 1));
        m.steps(2);
        Check.same("the run is the one of 99", m.result(), 99);
    }

    private static void capacities() {
        TrimmedMachine m = new TrimmedMachine();
        m.number(3);
        int[] wrong = {0, 121, -1, 122, -120, 256 + 1, LEAST, LEAST + 1, MOST};
        for (int capacity : wrong) {
            Check.fails("begin(0, " + capacity + ")", ARGUMENT, begin(m, 0, capacity));
            Check.fails("begin(1, " + capacity + ")", ARGUMENT, begin(m, 1, capacity));
        }
        Check.same("no run was begun", m.about(0), 0);
        for (int capacity = 1; capacity <= 120; capacity++) {
            Check.same("begin(0, " + capacity + ")", Check.answerOf(begin(m, 0, capacity)), "begun");
            Check.same("goes on", m.about(0), 1);
        }
    }

    private static void upToN() {
        int[][] runs = {{40, 0, 3, 499}, {40, 1, 2, 500}, {40, 2, 1, 501}};
        for (int[] run : runs) {
            int all = run[3];
            TrimmedMachine m = new TrimmedMachine();
            int e = counted(m, run[0], run[1], run[2]);
            m.begin(e, 120);
            Check.same("500 of " + all, m.steps(500), Math.min(all, 500));
            about("500 of " + all, m, all <= 500 ? 2 : 1, Math.min(all, 500));
            Check.same("500 more", m.steps(500), Math.max(all - 500, 0));
            about("all", m, 2, all);
            Check.same("result", Check.answerOf(m::result), 7);
        }
        TrimmedMachine m = new TrimmedMachine();
        int e = m.operation(0, m.number(2), m.number(3));
        for (int n = 1; n <= 8; n++) {
            m.begin(e, 120);
            Check.same(n + " of 6", m.steps(n), Math.min(n, 6));
            about(n + " of 6", m, n < 6 ? 1 : 2, Math.min(n, 6));
            Check.same("the others", m.steps(500), Math.max(6 - n, 0));
        }
        m.begin(loop(m, -1, e), 120);
        int all = 0;
        int[] numbers = {1, 2, 127, 128, 255, 256, 499, 500};
        for (int n : numbers) {
            Check.same(n + " of a run without an end", m.steps(n), n);
            all += n;
            about("all so far", m, 1, all);
        }
    }

    private static void noRunGoesOn() {
        TrimmedMachine m = new TrimmedMachine();
        Check.same("a new object", m.steps(1), 0);
        int one = m.number(1);
        int f = m.function(-1, 0, one);
        Check.same("never begun", m.steps(500), 0);
        int[] over = {one, f, m.variable(0), m.call(one, one), m.operation(0, f, f)};
        for (int e : over) {
            m.begin(e, 5);
            Check.answerOf(() -> m.steps(500));
            int done = m.about(1);
            Check.same("steps(1) of what is over", m.steps(1), 0);
            Check.same("steps(500) of what is over", m.steps(500), 0);
            Check.same("it did none", m.about(1), done);
        }
        m.begin(f, 1);
        Check.fails("no room", STATE, () -> m.steps(1));
        Check.same("behind it", m.steps(1), 0);
    }

    private static void wrongN() {
        TrimmedMachine m = new TrimmedMachine();
        wrongNow("a new object", m);
        int one = m.number(1);
        m.begin(one, 1);
        wrongNow("begun", m);
        about("nothing was done", m, 1, 0, 0, 0, 0, 0);
        m.steps(1);
        wrongNow("goes on", m);
        about("nothing was done", m, 1, 1, 1, 1, 0, 0);
        m.steps(1);
        wrongNow("ended", m);
        about("nothing was done", m, 2, 2, 0, 1, 0, 0);
        Check.same("the result stays", Check.answerOf(m::result), 1);
        m.begin(m.variable(0), 1);
        wrongNow("would fail", m);
        about("nothing was done", m, 1, 0, 0, 0, 0, 0);
        Check.fails("fails", NO_ELEMENT, () -> m.steps(500));
        wrongNow("failed", m);
        about("nothing was done", m, 3, 0, 0, 0, 0, 0);
    }

    private static void wrongNow(String name, TrimmedMachine m) {
        int[] wrong = {0, 501, -1, 502, -500, 512, 65536 + 1, LEAST, LEAST + 1, MOST};
        for (int n : wrong) {
            Check.fails(name + ", steps(" + n + ")", ARGUMENT, () -> m.steps(n));
        }
    }

    /** The step behind the 500th throws. */
    private static void whatAStepThrows() {
        TrimmedMachine m = new TrimmedMachine();
        int e = loop(m, 41, m.variable(5));
        m.begin(e, 120);
        Check.same("the 500 before it", Check.answerOf(() -> m.steps(500)), 500);
        about("it goes on", m, 1, 500, 0, 6, 0, 0);
        Check.fails("the step itself", NO_ELEMENT, () -> m.steps(1));
        about("failed", m, 3, 500, 0, 6, 0, 0);
        m.begin(e, 120);
        m.steps(1);
        Check.fails("the last of n", NO_ELEMENT, () -> m.steps(500));
        about("those before it are done", m, 3, 500, 0, 6, 0, 0);
        m.begin(e, 120);
        m.steps(250);
        Check.fails("in the midst of n", NO_ELEMENT, () -> m.steps(500));
        about("those before it are done", m, 3, 500, 0, 6, 0, 0);
        Check.same("none is done behind it", m.steps(500), 0);
        noResult("failed", m);
    }

    private static void aboutStatus() {
        TrimmedMachine m = new TrimmedMachine();
        Check.same("none", m.about(0), 0);
        int one = m.number(1);
        Check.same("none with an expression", m.about(0), 0);
        Check.fails("refused", ARGUMENT, begin(m, 1, 1));
        Check.same("none that was refused", m.about(0), 0);
        m.steps(1);
        Check.same("none behind steps", m.about(0), 0);
        m.begin(one, 1);
        Check.same("begun", m.about(0), 1);
        m.steps(1);
        Check.same("before its last step", m.about(0), 1);
        m.steps(1);
        Check.same("behind it", m.about(0), 2);
        m.begin(m.variable(0), 1);
        Check.same("before it fails", m.about(0), 1);
        Check.fails("fails", NO_ELEMENT, () -> m.steps(1));
        Check.same("failed", m.about(0), 3);
        m.begin(one, 1);
        Check.same("begun again", m.about(0), 1);
    }

    private static void aboutSteps() {
        TrimmedMachine m = new TrimmedMachine();
        Check.same("none", m.about(1), 0);
        int one = m.number(1);
        int sum = m.operation(0, one, one);
        m.begin(sum, 120);
        for (int done = 0; done <= 6; done++) {
            Check.same("behind " + done, m.about(1), done);
            m.steps(1);
        }
        Check.same("not those that weren't done", m.about(1), 6);
        m.begin(m.variable(0), 1);
        Check.fails("the first throws", NO_ELEMENT, () -> m.steps(9));
        Check.same("none", m.about(1), 0);
        m.begin(sum, 2);
        Check.fails("the fourth takes too much", STATE, () -> m.steps(9));
        Check.same("three", m.about(1), 3);
        m.steps(9);
        Check.same("still three", m.about(1), 3);
    }

    private static void aboutState() {
        TrimmedMachine m = new TrimmedMachine();
        about("without a run", m, 0, 0, 0, 0, 0, 0);
        int one = m.number(1);
        int f = m.function(-1, 0, one);
        m.begin(m.call(f, m.operation(0, one, one)), 120);
        int[][] states = {
            {1, 0, 0, 0, 0, 0},
            {1, 1, 1, 1, 1, 0}, // ARGUMENT
            {1, 2, 3, 3, 1, 1}, // the closure is returned
            {1, 3, 3, 3, 1, 1}, // APPLY
            {1, 4, 4, 4, 2, 1}, // APPLY, RIGHT
            {1, 5, 5, 5, 2, 1},
            {1, 6, 5, 5, 2, 1}, // APPLY, LEFT
            {1, 7, 6, 6, 2, 1},
            {1, 8, 4, 6, 1, 1}, // APPLY, 2 is returned
            {1, 9, 0, 6, 0, 0}, // the body, which uses nothing
            {1, 10, 1, 6, 0, 0},
            {2, 11, 0, 6, 0, 0},
        };
        for (int[] state : states) {
            about("step " + state[1], m, state);
            about("asked again", m, state);
            m.steps(1);
        }
    }

    private static void aboutOver() {
        TrimmedMachine m = new TrimmedMachine();
        int one = m.number(1);
        int f = m.function(-1, 0, one);
        m.begin(f, 2);
        m.steps(1);
        about("before it ends", m, 1, 1, 2, 2, 0, 1);
        m.steps(1);
        about("ended with a closure", m, 2, 2, 0, 2, 0, 0);
        int[][] fail = {{m.call(one, f), 4, 4}, {m.operation(0, one, f), 4, 4}, {m.choice(f, f, f), 2, 3}};
        for (int[] row : fail) {
            m.begin(row[0], 120);
            m.steps(row[1]);
            Check.same("frames before it fails", m.about(4), 1);
            Check.same("closures before it fails", m.about(5), 1);
            Check.same("space before it fails", m.about(2), row[2]);
            Check.answerOf(() -> m.steps(1));
            about("failed", m, 3, row[1], 0, row[2], 0, 0);
        }
        m.begin(m.operation(0, f, one), 3);
        m.steps(3);
        about("before there is no room", m, 1, 3, 3, 3, 1, 1);
        Check.fails("no room", STATE, () -> m.steps(1));
        about("no room", m, 3, 3, 0, 3, 0, 0);
    }

    private static void aboutOthers() {
        TrimmedMachine m = new TrimmedMachine();
        othersNow("a new object", m);
        m.begin(m.number(1), 1);
        othersNow("begun", m);
        m.steps(1);
        othersNow("goes on", m);
        m.steps(1);
        othersNow("ended", m);
        m.begin(m.variable(0), 1);
        Check.fails("fails", NO_ELEMENT, () -> m.steps(1));
        othersNow("failed", m);
    }

    private static void othersNow(String name, TrimmedMachine m) {
        int[] others = {-1, 6, -2, 7, 8, 256, 65536, LEAST, LEAST + 5, MOST};
        for (int what : others) {
            Check.same(name + ", about(" + what + ")", m.about(what), -1);
        }
    }

    private static void intOrFunction() {
        TrimmedMachine m = new TrimmedMachine();
        int[] values = {0, -1, 1, 99, 100, LEAST, MOST};
        for (int n : values) {
            m.begin(m.number(n), 1);
            m.steps(2);
            Check.same("the int " + n, Check.answerOf(m::result), n);
        }
        int zero = m.variable(0);
        int first = m.function(-1, 0, zero);
        // A closure that was made in the run, one that came through a variable, and one of two branches
        int[] runs = {first, m.call(first, first), m.choice(m.number(0), m.number(5), first)};
        for (int e : runs) {
            m.begin(e, 120);
            m.steps(500);
            Check.same("the function", Check.answerOf(m::result), first);
        }
        int second = m.function(-1, 0, zero);
        m.begin(m.call(first, second), 120);
        m.steps(500);
        Check.same("its own function, not a like one", Check.answerOf(m::result), second);
        functionsAtTheEnds();
    }

    private static void functionsAtTheEnds() {
        TrimmedMachine m = new TrimmedMachine();
        m.number(0);
        Check.same("the lowest number of a function", m.function(-1, 0, 0), 1);
        for (int e = 2; e < 99; e++) {
            m.number(e);
        }
        Check.same("the greatest number of a function", m.function(0, 1, 98), 99);
        int[] functions = {1, 99};
        for (int f : functions) {
            m.begin(f, 2);
            m.steps(2);
            Check.same("function " + f, Check.answerOf(m::result), f);
            Check.same("is a closure", Check.answerOf(m::isClosure), true);
        }
    }

    private static void noneEnded() {
        TrimmedMachine m = new TrimmedMachine();
        noResult("a new object", m);
        int one = m.number(1);
        noResult("no run", m);
        Check.fails("refused", ARGUMENT, begin(m, one, 0));
        noResult("a run that was refused", m);
        m.begin(one, 1);
        noResult("begun", m);
        m.steps(1);
        noResult("returned, but not ended", m);
        m.steps(1);
        Check.same("ended", Check.answerOf(m::result), 1);
        Check.same("asked again", Check.answerOf(m::result), 1);
        m.steps(500);
        Check.same("behind steps that did nothing", Check.answerOf(m::result), 1);
        TrimmedMachine failed = new TrimmedMachine();
        failed.begin(failed.variable(0), 1);
        Check.fails("fails", NO_ELEMENT, () -> failed.steps(1));
        noResult("failed", failed);
    }

    private static void anotherWasBegun() {
        TrimmedMachine m = new TrimmedMachine();
        int one = m.number(1);
        int f = m.function(-1, 0, one);
        int[] ended = {one, f};
        int[] next = {one, f, m.variable(0)};
        for (int e : ended) {
            for (int other : next) {
                m.begin(e, 2);
                m.steps(2);
                Check.same("ended", Check.answerOf(m::result), e == f ? f : 1);
                Check.fails("refused", ARGUMENT, begin(m, other, 121));
                Check.fails("refused", ARGUMENT, begin(m, 100, 1));
                Check.same("none was begun", Check.answerOf(m::result), e == f ? f : 1);
                Check.same("none was begun, isClosure()", Check.answerOf(m::isClosure), e == f);
                m.begin(other, 2);
                noResult("begun", m);
                Check.answerOf(() -> m.steps(1));
                noResult("a step of it", m);
            }
        }
        Check.fails("failed", STATE, m::result);
        m.begin(one, 1);
        m.steps(2);
        Check.same("it ended too", Check.answerOf(m::result), 1);
    }

    private static void closureOrInt() {
        TrimmedMachine m = new TrimmedMachine();
        int one = m.number(1);
        int f = m.function(-1, 0, m.variable(0));
        // A number that is the function's is an int all the same.
        int[] ints = {one, m.number(f), m.number(-1), m.number(LEAST), m.number(MOST), m.call(f, one)};
        for (int e : ints) {
            m.begin(e, 120);
            m.steps(500);
            Check.same("an int, expression " + e, Check.answerOf(m::isClosure), false);
            m.begin(m.call(f, f), 120);
            m.steps(500);
            Check.same("a closure behind it", Check.answerOf(m::isClosure), true);
            Check.same("asked again", Check.answerOf(m::isClosure), true);
        }
    }

    private static void lastCalls() {
        TrimmedMachine m = new TrimmedMachine();
        int call = loop(m, -1, 0);
        int calls = 9;
        while (calls < 100) {
            m.number(calls++);
        }
        m.begin(call, 120);
        calls++;
        while (calls < 510) {
            Check.same("call " + ++calls, m.steps(500), 500);
        }
        Check.same("the 511th call", m.about(1), 409 * 500);
        Check.same("the 512th call", m.about(3), 6);
        TrimmedMachine restless = new TrimmedMachine();
        int f = restless.function(-1, 0, restless.number(3));
        for (int round = 0; round < 170; round++) {
            restless.begin(f, 2);
            Check.same("steps in round " + round, restless.steps(2), 2);
            Check.same("result in round " + round, restless.result(), f);
        }
    }
}
