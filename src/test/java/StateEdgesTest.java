import java.util.Arrays;
import java.util.NoSuchElementException;

/** The document's sentences on states, their space and how they fail that name an edge, each with a test. */
public final class StateEdgesTest {
    private static final Class<IllegalStateException> STATE = IllegalStateException.class;
    private static final Class<NoSuchElementException> NO_ELEMENT = NoSuchElementException.class;
    private static final Class<UnsupportedOperationException> UNSUPPORTED = UnsupportedOperationException.class;
    private static final int LEAST = Integer.MIN_VALUE;
    private static final int MOST = Integer.MAX_VALUE;
    private static final int RUNS = 6;

    public static void main(String[] args) {
        steps();
        operations();
        space();
        failures();
        Check.finish();
    }

    private static void steps() {
        Check.sentence("A run begins with no frames, and evaluates its expression in the environment without variables.",
            StateEdgesTest::beginsWithNothing);
        Check.sentence("TRIMMED to an expression it gives values only to those of them that are free in it.",
            StateEdgesTest::allEightVariables);
        Check.sentence("returns a new closure of it that holds the environment trimmed to it",
            StateEdgesTest::sevenVariablesHeld);
        Check.sentence("trimmed to both (what is free in one of them)", StateEdgesTest::trimmedToBoth);
        Check.sentence("a is evaluated if v isn't 0, else b", StateEdgesTest::whichBranch);
        Check.sentence("of the same variable the last one told here counts", StateEdgesTest::lastOneTold);
        Check.sentence("the function's variable before what is held", StateEdgesTest::variableBeforeHeld);
        Check.sentence("the self before both", StateEdgesTest::selfBeforeBoth);
        Check.sentence("Returns a value without a frame: the run ENDS with it.", StateEdgesTest::ends);
    }

    private static void operations() {
        Check.sentence("0 u + v", () -> operation(0, new int[][] {
            {0, 0, 0}, {-1, 1, 0}, {MOST, 1, LEAST}, {LEAST, -1, MOST}, {MOST, MOST, -2}, {LEAST, LEAST, 0},
        }));
        Check.sentence("1 u - v", () -> operation(1, new int[][] {
            {0, 0, 0}, {2, 3, -1}, {3, 2, 1}, {LEAST, 1, MOST}, {MOST, -1, LEAST}, {0, LEAST, LEAST}, {-1, LEAST, MOST},
        }));
        Check.sentence("2 u * v (wrapping)", () -> operation(2, new int[][] {
            {0, MOST, 0}, {-1, MOST, -MOST}, {-1, LEAST, LEAST}, {MOST, MOST, 1}, {LEAST, LEAST, 0},
            {65536, 65536, 0}, {65536, 32768, LEAST}, {46341, 46341, -2147479015}, {MOST, LEAST, LEAST},
        }));
        Check.sentence("3 LESS: 1 if u is below v, else 0", () -> operation(3, new int[][] {
            {2, 3, 1}, {3, 3, 0}, {4, 3, 0}, {-1, 0, 1}, {0, -1, 0}, {LEAST, MOST, 1}, {MOST, LEAST, 0},
            {LEAST, LEAST, 0}, {LEAST, LEAST + 1, 1}, {MOST, MOST, 0}, {MOST - 1, MOST, 1}, {LEAST, 1, 1}, {1, LEAST, 0},
        }));
    }

    private static void space() {
        Check.sentence("the variables that its environment gives values to (or 1 for a value that it returns)",
            StateEdgesTest::spaceWithoutFrames);
        Check.sentence("for each frame 1 and its environment's variables (1 for the value of APPLY and LEFT)",
            StateEdgesTest::spaceOfFrames);
        Check.sentence("once each, 1 and the variables that it holds", StateEdgesTest::closuresOnceEach);
        Check.sentence("or one that such a closure holds, and so on", StateEdgesTest::heldByHeld);
        Check.sentence("The PEAK of a run is the greatest space of its states so far.", StateEdgesTest::peaks);
    }

    private static void failures() {
        Check.sentence("NoSuchElementException: a variable without a value is evaluated.",
            StateEdgesTest::withoutValue);
        Check.sentence("UnsupportedOperationException: APPLY with an int", StateEdgesTest::applyWithInt);
        Check.sentence("LEFT or BRANCH with a closure (u or v)", StateEdgesTest::leftOrBranchWithClosure);
        Check.sentence("IllegalStateException: the state that comes takes more space than the capacity",
            StateEdgesTest::everyCapacity);
        Check.sentence("this state isn't counted for the peak", StateEdgesTest::peakWithoutTheLast);
        Check.sentence("A run FAILS, and is over, by a step that throws", StateEdgesTest::isOver);
        Check.sentence("the first of these", StateEdgesTest::firstOfThese);
    }

    private static void about(String name, TrimmedMachine m, int... due) {
        for (int what = 0; what < due.length; what++) {
            Check.same(name + ", about(" + what + ")", m.about(what), due[what]);
        }
    }

    /** Does the run in single steps; each row is what about answers behind the step of its number. */
    private static void trace(TrimmedMachine m, int[][] states) {
        for (int[] state : states) {
            while (m.about(1) < state[1] && m.steps(1) == 1) {
                continue;
            }
            about("step " + state[1], m, state);
        }
    }

    private static void ends(String name, TrimmedMachine m, int e, int due) {
        m.begin(e, 120);
        Check.answerOf(() -> m.steps(500));
        Check.same(name, Check.answerOf(m::result), due);
    }

    private static void fails(TrimmedMachine m, int e, int capacity, Class<? extends RuntimeException> due, int... about) {
        m.begin(e, capacity);
        Check.fails("capacity " + capacity, due, () -> m.steps(500));
        about("capacity " + capacity, m, about);
    }

    private static void beginsWithNothing() {
        TrimmedMachine m = new TrimmedMachine();
        int zero = m.variable(0);
        int seven = m.number(7);
        int waits = m.call(m.function(-1, 0, m.operation(0, zero, zero)), m.function(-1, 1, seven));
        m.begin(waits, 120);
        m.steps(6);
        about("with a frame, a variable and a closure", m, 1, 6, 4, 5, 1, 1);
        m.begin(zero, 120);
        about("begun", m, 1, 0, 0, 0, 0, 0);
        Check.fails("without the value of the run before", NO_ELEMENT, () -> m.steps(1));
        m.begin(waits, 120);
        m.steps(6);
        m.begin(seven, 120);
        Check.same("without the frames of the run before", m.steps(500), 2);
        Check.same("its result", m.result(), 7);
    }

    /** Four functions with selves, so that the body has all eight variables: four ints and four closures. */
    private static void allEightVariables() {
        TrimmedMachine m = new TrimmedMachine();
        int f = Parts.allVariables(m);
        for (int v = 3; v >= 0; v--) {
            f = m.function(4 + v, v, f);
        }
        int e = f;
        int one = m.number(1);
        for (int i = 0; i < 4; i++) {
            e = m.call(e, one);
        }
        m.begin(e, 26);
        trace(m, new int[][] {
            {1, 4, 4, 4, 4, 0}, // four frames with a number, which has no free variables
            {1, 5, 6, 6, 4, 1}, // a closure that holds nothing
            {1, 20, 24, 24, 0, 4}, // the body: 8, and closures with 1, 3, 5 and 7
            {1, 21, 25, 25, 1, 4}, // BRANCH with 3 to 7, c with 0 to 2
            {1, 22, 26, 26, 2, 4}, // BRANCH with 1 and 2, c with 0
            {1, 23, 26, 26, 2, 4},
            {1, 24, 23, 26, 1, 4}, // the branch taken with 1 alone
            {1, 25, 23, 26, 1, 4},
            {1, 26, 7, 26, 0, 2}, // 3 to 5, of which 4 and 5 are closures
            {1, 27, 8, 26, 1, 2},
            {1, 28, 8, 26, 1, 2},
            {1, 29, 2, 26, 0, 1}, // 4 alone
            {1, 30, 2, 26, 0, 1},
            {2, 31, 0, 26, 0, 0},
        });
        Check.same("the outermost function is its own self", m.result(), f);
    }

    /** fun self 6 of 0 . fun 1 . .. fun 5 . fun 7 . all, called with six numbers: the last one holds seven. */
    private static void sevenVariablesHeld() {
        TrimmedMachine m = new TrimmedMachine();
        int last = m.function(-1, 7, Parts.allVariables(m));
        int f = last;
        for (int v = 5; v >= 0; v--) {
            f = m.function(v == 0 ? 6 : -1, v, f);
        }
        int body = m.variable(0);
        int one = m.number(1);
        for (int i = 0; i < 6; i++) {
            body = m.call(body, one);
        }
        int e = m.call(m.function(-1, 0, body), f);
        m.begin(e, 11);
        trace(m, new int[][] {
            {1, 34, 11, 11, 1, 2}, // APPLY with a closure of six, and the outermost one
            {1, 35, 8, 11, 0, 1}, // seven variables, one of them the outermost closure
            {1, 36, 10, 11, 0, 2}, // a closure that holds them
            {2, 37, 0, 11, 0, 0},
        });
        Check.same("the function", m.result(), last);
        Check.same("a closure", m.isClosure(), true);
        fails(m, e, 10, STATE, 3, 17, 0, 10, 0, 0);
        // What is free in a function but has no value isn't held.
        m.begin(last, 120);
        m.steps(1);
        about("nothing to hold", m, 1, 1, 2, 2, 0, 1);
    }

    /** (fun 0 . if 0 then 0 else 3) 5, and likewise: what is free in just one of a and b is kept for it. */
    private static void trimmedToBoth() {
        TrimmedMachine m = new TrimmedMachine();
        int zero = m.variable(0);
        int five = m.number(5);
        int[][] branches = {{zero, five, 3}, {five, zero, 3}, {zero, zero, 3}, {five, five, 2}};
        for (int[] branch : branches) {
            m.begin(m.call(m.function(-1, 0, m.choice(zero, branch[0], branch[1])), five), 120);
            m.steps(6);
            about("BRANCH with " + branch[0] + " and " + branch[1], m, 1, 6, branch[2], 4, 1, 0);
            m.steps(2);
            about("the one taken", m, 1, 8, branch[0] == zero ? 1 : 0, 4, 0, 0);
        }
    }

    private static void whichBranch() {
        int[] values = {0, 1, -1, 2, 256, 65536, 1 << 30, LEAST, MOST};
        for (int v : values) {
            TrimmedMachine m = new TrimmedMachine();
            int e = m.choice(m.number(v), m.number(10), m.number(20));
            ends("v is " + v, m, e, v == 0 ? 20 : 10);
            Check.same("steps", m.about(1), 5);
        }
    }

    private static void lastOneTold() {
        TrimmedMachine m = new TrimmedMachine();
        int two = m.variable(2);
        int nine = m.number(9);
        int both = m.function(2, 2, two);
        m.begin(m.call(both, nine), 120);
        m.steps(5);
        about("one variable, and it is the closure", m, 1, 5, 2, 4, 0, 1);
        m.steps(2);
        Check.same("the self", m.result(), both);
        Check.same("is a closure", m.isClosure(), true);
        int alone = m.function(-1, 2, two);
        ends("without a self, the variable", m, m.call(alone, nine), 9);
    }

    private static void variableBeforeHeld() {
        TrimmedMachine m = new TrimmedMachine();
        int zero = m.variable(0);
        // (fun 0 . fun 0 . 0) 1 2
        int inner = m.function(-1, 0, zero);
        int e = m.call(m.call(m.function(-1, 0, inner), m.number(1)), m.number(2));
        ends("the inner variable", m, e, 2);
        // (fun 0 . fun 1 . 0 - 1) 10 3, which holds 0 and is given 1
        int minus = m.function(-1, 1, m.operation(1, zero, m.variable(1)));
        ends("beside one that is held", m, m.call(m.call(m.function(-1, 0, minus), m.number(10)), m.number(3)), 7);
    }

    private static void selfBeforeBoth() {
        TrimmedMachine m = new TrimmedMachine();
        int zero = m.variable(0);
        int one = m.number(1);
        // (fun 0 . fun self 0 of 1 . 0) 1 1: the self, not what the outer function was called with
        int inner = m.function(0, 1, zero);
        ends("before the outer variable", m, m.call(m.call(m.function(-1, 0, inner), one), one), inner);
        // fun self 0 of 3 . fun self 0 of 0 . 0: the inner self, before its variable and the outer self
        int innermost = m.function(0, 0, zero);
        int outer = m.function(0, 3, innermost);
        ends("before the variable and the outer self", m, m.call(m.call(outer, one), one), innermost);
        // fun self 0 of 3 . fun 0 . 0: a variable inside goes before a self outside
        int inside = m.function(0, 3, m.function(-1, 0, zero));
        ends("not before the variable of a function inside", m, m.call(m.call(inside, m.number(5)), m.number(6)), 6);
    }

    private static void ends() {
        TrimmedMachine m = new TrimmedMachine();
        int seven = m.number(7);
        m.begin(seven, 1);
        m.steps(1);
        about("returns", m, 1, 1, 1, 1, 0, 0);
        Check.same("the step that ends it", m.steps(1), 1);
        about("ended", m, 2, 2, 0, 1, 0, 0);
        int f = m.function(-1, 0, seven);
        m.begin(f, 2);
        Check.same("two steps", m.steps(3), 2);
        about("ended with a closure", m, 2, 2, 0, 2, 0, 0);
        m.begin(m.operation(0, seven, seven), 3);
        m.steps(2);
        about("a value, but with a frame", m, 1, 2, 2, 2, 1, 0);
        Check.same("it goes on", m.steps(500), 4);
        Check.same("until there is no frame", m.result(), 14);
    }

    private static void operation(int op, int[][] rows) {
        for (int[] row : rows) {
            TrimmedMachine m = new TrimmedMachine();
            int e = m.operation(op, m.number(row[0]), m.number(row[1]));
            ends("of " + row[0] + " and " + row[1], m, e, row[2]);
            Check.same("isClosure", Check.answerOf(m::isClosure), false);
        }
    }

    private static void spaceWithoutFrames() {
        TrimmedMachine m = new TrimmedMachine();
        int one = m.number(1);
        int f = m.function(-1, 0, one);
        m.begin(m.call(f, one), 120);
        trace(m, new int[][] {
            {1, 0, 0, 0, 0, 0}, // no variables
            {1, 5, 0, 4, 0, 0}, // none again: the variable isn't used in the body
            {1, 6, 1, 4, 0, 0}, // an int
        });
        m.begin(m.call(m.function(-1, 7, m.variable(7)), one), 120);
        trace(m, new int[][] {
            {1, 5, 1, 4, 0, 0}, // the last variable
            {1, 6, 1, 4, 0, 0},
        });
        m.begin(m.call(m.function(7, 0, m.operation(0, m.variable(7), m.variable(0))), one), 120);
        trace(m, new int[][] {{1, 5, 3, 4, 0, 1}}); // an int and a closure
    }

    private static void spaceOfFrames() {
        TrimmedMachine m = new TrimmedMachine();
        int one = m.number(1);
        int zero = m.variable(0);
        m.begin(m.operation(0, one, one), 120);
        trace(m, new int[][] {
            {1, 1, 1, 1, 1, 0}, // RIGHT without variables
            {1, 2, 2, 2, 1, 0},
            {1, 3, 2, 2, 1, 0}, // LEFT with 1
            {1, 4, 3, 3, 1, 0},
        });
        // (fun 0 . 0 + 0) 1: RIGHT with a variable; the same frame as LEFT takes as much
        m.begin(m.call(m.function(-1, 0, m.operation(0, zero, zero)), one), 120);
        trace(m, new int[][] {
            {1, 3, 3, 3, 1, 1}, // APPLY with a closure
            {1, 4, 4, 4, 1, 1},
            {1, 6, 3, 4, 1, 0}, // RIGHT with 0, x with 0
            {1, 7, 3, 4, 1, 0},
            {1, 8, 3, 4, 1, 0}, // LEFT with 1, y with 0
            {1, 9, 3, 4, 1, 0},
            {1, 10, 1, 4, 0, 0},
        });
        // (fun 0 . (fun 1 . 1) 0) 1: ARGUMENT with a variable, f without any
        m.begin(m.call(m.function(-1, 0, m.call(m.function(-1, 1, m.variable(1)), zero)), one), 120);
        trace(m, new int[][] {
            {1, 6, 2, 4, 1, 0},
            {1, 7, 4, 4, 1, 1},
            {1, 8, 4, 4, 1, 1}, // APPLY with the closure, x with 0
        });
    }

    private static void closuresOnceEach() {
        TrimmedMachine m = new TrimmedMachine();
        int zero = m.variable(0);
        int one = m.number(1);
        int f = m.function(-1, 1, one);
        // (fun 0 . 0 + 0) f: the same closure in two places
        m.begin(m.call(m.function(-1, 0, m.operation(0, zero, zero)), f), 120);
        trace(m, new int[][] {
            {1, 4, 5, 5, 1, 2}, // APPLY with one closure, another one returned
            {1, 5, 2, 5, 0, 1},
            {1, 6, 4, 5, 1, 1}, // in RIGHT and for x
            {1, 7, 4, 5, 1, 1}, // in RIGHT and returned
            {1, 8, 4, 5, 1, 1}, // in LEFT and for y
            {1, 9, 4, 5, 1, 1}, // in LEFT and returned
        });
        // Two closures of one function that hold the same are two.
        m.begin(m.operation(0, f, f), 120);
        trace(m, new int[][] {{1, 2, 3, 3, 1, 1}, {1, 3, 3, 3, 1, 1}, {1, 4, 5, 5, 1, 2}});
        // (fun 0 . fun 1 . fun 2 . 0 + 1) 1 1: each variable that is held
        int holder = m.function(-1, 2, m.operation(0, zero, m.variable(1)));
        int e = m.call(m.call(m.function(-1, 0, m.function(-1, 1, holder)), one), one);
        m.begin(e, 120);
        trace(m, new int[][] {{1, 7, 4, 5, 1, 1}, {1, 10, 2, 5, 0, 0}, {1, 11, 4, 5, 0, 1}});
    }

    /** f, fun . f, fun . fun . f and so on: each closure holds just the one before. */
    private static void heldByHeld() {
        TrimmedMachine m = new TrimmedMachine();
        int zero = m.variable(0);
        int hold = m.function(-1, 0, m.function(-1, 1, zero));
        int e = m.function(-1, 1, zero);
        int f = m.number(3);
        for (int depth = 0; depth < 6; depth++) {
            f = m.call(hold, f);
            m.begin(f, 120);
            int stepsToEnd = 1 + 5 * (depth + 1);
            m.steps(stepsToEnd);
            about("depth " + depth, m, 1, stepsToEnd, 1 + 2 * (depth + 1));
            Check.same("closures", m.about(5), depth + 1);
            Check.same("frames", m.about(4), 0);
        }
        m.begin(e, 120);
        m.steps(1);
        about("what has no value isn't held", m, 1, 1, 2, 2, 0, 1);
    }

    private static void peaks() {
        TrimmedMachine m = new TrimmedMachine();
        int one = m.number(1);
        int sum = m.operation(0, one, one);
        m.begin(m.operation(0, sum, m.operation(0, one, sum)), 120);
        Check.same("begun", m.about(3), 0);
        int greatest = 0;
        for (int i = 0; i < 17; i++) {
            m.steps(1);
            greatest = Math.max(greatest, m.about(2));
            Check.same("so far, step " + i, m.about(3), greatest);
        }
        Check.same("in the end", m.about(3), 7);
        // It isn't the last state's, nor the one behind the last call of steps.
        m.begin(m.operation(0, sum, one), 120);
        m.steps(9);
        about("within one call", m, 1, 9, 1, 4, 0, 0);
        m.begin(one, 120);
        Check.same("another run's starts anew", m.about(3), 0);
        m.steps(1);
        Check.same("and is its own", m.about(3), 1);
    }

    private static void withoutValue() {
        TrimmedMachine m = new TrimmedMachine();
        int one = m.number(1);
        for (int v = 0; v <= 7; v++) {
            fails(m, m.variable(v), 1, NO_ELEMENT, 3, 0, 0, 0, 0, 0);
        }
        int zero = m.variable(0);
        int two = m.variable(2);
        fails(m, m.operation(0, one, zero), 120, NO_ELEMENT, 3, 3, 0, 2, 0, 0);
        // (fun 0 . 1) 0 : it has a value in the function alone
        fails(m, m.call(m.function(-1, 0, one), zero), 120, NO_ELEMENT, 3, 3, 0, 3, 0, 0);
        // (fun 0 . 2) 1 : another one has a value
        fails(m, m.call(m.function(-1, 0, two), one), 120, NO_ELEMENT, 3, 5, 0, 4, 0, 0);
        // (fun 0 . 0) 1 + 0 : it had a value before
        fails(m, m.operation(0, m.call(m.function(-1, 0, zero), one), zero), 120, NO_ELEMENT, 3, 8, 0, 5, 0, 0);
        ends("one that isn't evaluated, in a branch", m, m.choice(one, one, zero), 1);
        ends("in the other branch", m, m.choice(m.number(0), zero, one), 1);
        int f = m.function(-1, 0, two);
        ends("in a function that isn't called", m, f, f);
    }

    private static void applyWithInt() {
        TrimmedMachine m = new TrimmedMachine();
        int[] values = {0, 1, -1, LEAST, MOST};
        for (int v : values) {
            int n = m.number(v);
            int e = m.call(n, n);
            fails(m, e, 3, UNSUPPORTED, 3, 4, 0, 3, 0, 0);
            fails(m, e, 2, STATE, 3, 3, 0, 2, 0, 0);
        }
        int f = m.function(-1, 0, m.variable(0));
        fails(m, m.call(0, f), 4, UNSUPPORTED, 3, 4, 0, 4, 0, 0);
        ends("a closure called with a closure", m, m.call(f, f), f);
        fails(m, m.call(m.call(f, 0), 0), 120, UNSUPPORTED, 3, 9, 0, 5, 0, 0);
    }

    private static void leftOrBranchWithClosure() {
        TrimmedMachine m = new TrimmedMachine();
        int one = m.number(1);
        int f = m.function(-1, 0, one);
        for (int op = 0; op <= 3; op++) {
            fails(m, m.operation(op, f, one), 4, UNSUPPORTED, 3, 4, 0, 4, 0, 0);
            fails(m, m.operation(op, one, f), 4, UNSUPPORTED, 3, 4, 0, 4, 0, 0);
            fails(m, m.operation(op, f, f), 5, UNSUPPORTED, 3, 4, 0, 5, 0, 0);
        }
        int u = m.operation(0, f, one);
        fails(m, u, 3, STATE, 3, 3, 0, 3, 0, 0);
        fails(m, u, 2, STATE, 3, 1, 0, 1, 0, 0);
        fails(m, m.operation(0, one, f), 3, STATE, 3, 3, 0, 2, 0, 0);
        int branch = m.choice(f, one, one);
        fails(m, branch, 3, UNSUPPORTED, 3, 2, 0, 3, 0, 0);
        fails(m, branch, 2, STATE, 3, 1, 0, 1, 0, 0);
        ends("a branch may be a closure", m, m.choice(one, f, one), f);
        ends("the other one too", m, m.choice(m.number(0), one, f), f);
    }

    /** Every capacity of some runs: it fails at the first state that takes more, and nowhere else. */
    private static void everyCapacity() {
        for (int which = 0; which < RUNS; which++) {
            int[] spaces = spacesOf(which);
            for (int capacity = 1; capacity <= 120; capacity++) {
                upToCapacity(which, capacity, spaces);
            }
        }
    }

    /** A number, a closure, a product, a choice, a run that grows and shrinks by frames, one that grows by closures. */
    private static int expressionOfRun(TrimmedMachine m, int which) {
        int zero = m.variable(0);
        int one = m.number(1);
        int self = m.variable(1);
        int round = m.operation(0, zero, m.call(self, m.operation(1, zero, one)));
        int deep = m.call(m.function(1, 0, m.choice(zero, round, one)), m.number(17));
        int f = m.function(-1, 2, m.variable(2));
        int chain = m.function(0, 1, m.call(zero, m.function(-1, 2, m.call(self, m.variable(2)))));
        int[] expressions = {one, f, m.operation(2, one, one), m.choice(one, f, one), deep, m.call(chain, f)};
        return expressions[which];
    }

    /** The space behind each step that the greatest capacity has room for; 0 behind the one that ends the run. */
    private static int[] spacesOf(int which) {
        int[] spaces = new int[500];
        int done = 0;
        TrimmedMachine m = begunRun(which, 120);
        while (Check.answerOf(stepsOf(m, done + 1)).equals(done + 1)) {
            spaces[done] = m.about(2);
            done++;
            m = begunRun(which, 120);
        }
        return Arrays.copyOf(spaces, done);
    }

    /** A new object each time, for one of them is good for 512 calls. */
    private static TrimmedMachine begunRun(int which, int capacity) {
        TrimmedMachine m = new TrimmedMachine();
        m.begin(expressionOfRun(m, which), capacity);
        return m;
    }

    private static Check.Call stepsOf(TrimmedMachine m, int n) {
        return () -> m.steps(n);
    }

    private static void upToCapacity(int which, int capacity, int[] spaces) {
        int first = 0;
        int peak = 0;
        while (first < spaces.length && spaces[first] <= capacity) {
            peak = Math.max(peak, spaces[first]);
            first++;
        }
        String name = "run " + which + " with capacity " + capacity;
        TrimmedMachine m = begunRun(which, capacity);
        if (first > 0) {
            Check.same(name + ", all that have room", Check.answerOf(stepsOf(m, first)), first);
        }
        Check.same(name + ", its peak", m.about(3), peak);
        if (first < spaces.length) {
            Check.fails(name + ", 1 more", STATE, stepsOf(m, 1));
            about(name, m, 3, first, 0, peak, 0, 0);
        }
    }

    private static void peakWithoutTheLast() {
        TrimmedMachine m = new TrimmedMachine();
        int one = m.number(1);
        int f = m.function(-1, 0, one);
        fails(m, f, 1, STATE, 3, 0, 0, 0, 0, 0);
        int sum = m.operation(0, f, one);
        // From 1 to 3 at once: the peak stays 1 with a capacity of 2.
        fails(m, sum, 2, STATE, 3, 1, 0, 1, 0, 0);
        m.begin(sum, 3);
        Check.same("just the capacity", m.steps(2), 2);
        about("just the capacity", m, 1, 2, 3, 3, 1, 1);
        m.begin(one, 120);
        m.steps(2);
        Check.same("nor is it for the next run", m.about(3), 1);
    }

    private static void isOver() {
        TrimmedMachine m = new TrimmedMachine();
        int one = m.number(1);
        int f = m.function(-1, 0, one);
        int[] expressions = {m.variable(0), m.call(one, one), m.operation(0, f, one), f};
        int[] capacities = {120, 120, 120, 1};
        for (int i = 0; i < expressions.length; i++) {
            m.begin(expressions[i], capacities[i]);
            Object threw = Check.answerOf(() -> m.steps(500));
            Check.same("it threw " + threw, threw.toString().startsWith("throws."), true);
            int done = m.about(1);
            int peak = m.about(3);
            for (int n = 1; n <= 500; n += 499) {
                Check.same("steps(" + n + ")", m.steps(n), 0);
                about("over", m, 3, done, 0, peak, 0, 0);
                Check.fails("result()", STATE, m::result);
                Check.fails("isClosure()", STATE, m::isClosure);
            }
        }
        ends("another run can be begun", m, one, 1);
    }

    private static void firstOfThese() {
        TrimmedMachine m = new TrimmedMachine();
        int one = m.number(1);
        int none = m.variable(4);
        int f = m.function(-1, 0, one);
        // What x and y throw comes before what APPLY and LEFT throw, for they are evaluated before.
        fails(m, m.call(one, none), 120, NO_ELEMENT, 3, 3, 0, 2, 0, 0);
        fails(m, m.operation(0, f, none), 120, NO_ELEMENT, 3, 3, 0, 3, 0, 0);
        fails(m, m.operation(0, none, f), 120, NO_ELEMENT, 3, 1, 0, 1, 0, 0);
        fails(m, m.choice(f, none, none), 120, UNSUPPORTED, 3, 2, 0, 3, 0, 0);
        fails(m, m.choice(none, f, f), 120, NO_ELEMENT, 3, 1, 0, 1, 0, 0);
        // With the space just full, the step throws what it would with more room.
        fails(m, m.operation(0, f, none), 3, NO_ELEMENT, 3, 3, 0, 3, 0, 0);
        fails(m, m.operation(0, none, f), 1, NO_ELEMENT, 3, 1, 0, 1, 0, 0);
        fails(m, m.choice(f, none, none), 3, UNSUPPORTED, 3, 2, 0, 3, 0, 0);
    }
}
