/** The document's sentences on expressions that name an edge, each with a test of its own. */
public final class ExpressionEdgesTest {
    private static final Class<IllegalArgumentException> ARGUMENT = IllegalArgumentException.class;
    private static final Class<IllegalStateException> STATE = IllegalStateException.class;
    private static final int LEAST = Integer.MIN_VALUE;
    private static final int MOST = Integer.MAX_VALUE;
    // 32 and 256 more than right ones too: neither a shift nor a narrow type may make them right.
    private static final int[] NO_VARIABLES = {-2, -8, -32, 8, 9, 31, 32, 39, 256, LEAST, MOST};

    public static void main(String[] args) {
        Check.sentence("No expressions, no run.", ExpressionEdgesTest::newObject);
        terms();
        promisesTwoToSeven();
        Check.sentence("The variables that are free in an expression, as bits.", ExpressionEdgesTest::freeAsBits);
        Check.sentence("IllegalArgumentException when there is none such.", ExpressionEdgesTest::freeOfNone);
        Check.finish();
    }

    private static void terms() {
        Check.sentence("EXPRESSIONS have numbers 0, 1, .. in the order in which they are made, at most 100",
            ExpressionEdgesTest::hundredOfAllKinds);
        Check.sentence("each is made of earlier ones", ExpressionEdgesTest::madeOfEarlierOnes);
        Check.sentence("and is at most 10 HIGH", ExpressionEdgesTest::atMostTenHigh);
        Check.sentence("0 for a NUMBER or VARIABLE", ExpressionEdgesTest::heightOfLeaves);
        Check.sentence("else 1 more than its highest part", ExpressionEdgesTest::highestPartCounts);
        Check.sentence("VARIABLES are 0 .. 7", ExpressionEdgesTest::variablesAreEight);
        Check.sentence("what is free in the body, but v and s", ExpressionEdgesTest::freeButVariableAndSelf);
        Check.sentence("in all others what is free in a part", ExpressionEdgesTest::freeInAPart);
    }

    private static void promisesTwoToSeven() {
        Check.sentence("A NUMBER: its own.", ExpressionEdgesTest::anyInt);
        Check.sentence("throws IllegalStateException when there are 100", ExpressionEdgesTest::full);
        Check.sentence("IllegalArgumentException, looked at first here and below", ExpressionEdgesTest::fullAndWrong);
        Check.sentence("when there is none such", ExpressionEdgesTest::noSuchVariable);
        Check.sentence("a self (a variable, or -1 for none)", ExpressionEdgesTest::selves);
        Check.sentence("IllegalArgumentException when one isn't there", ExpressionEdgesTest::onePartIsNotThere);
        Check.sentence("or it would be too high", ExpressionEdgesTest::tooHigh);
        Check.sentence("An OPERATION 0 .. 3.", ExpressionEdgesTest::operations);
    }

    private static void newObject() {
        TrimmedMachine m = new TrimmedMachine();
        Check.fails("free(0)", ARGUMENT, () -> m.free(0));
        Check.fails("begin(0, 1)", ARGUMENT, () -> { m.begin(0, 1); return "nothing"; });
        for (int place = 0; place < Parts.PLACES; place++) {
            int tried = place;
            Check.fails(Parts.name(place), ARGUMENT, () -> Parts.make(m, tried, 0));
        }
        for (int what = 0; what <= 5; what++) {
            Check.same("about(" + what + ")", m.about(what), 0);
        }
        Check.same("steps(500)", m.steps(500), 0);
        Check.fails("result()", STATE, m::result);
        Check.fails("isClosure()", STATE, m::isClosure);
        Check.same("the first expression", m.number(5), 0);
        Check.same("about(0) with an expression, but no run", m.about(0), 0);
        Check.same("steps(1) with an expression, but no run", m.steps(1), 0);
    }

    private static void hundredOfAllKinds() {
        TrimmedMachine m = new TrimmedMachine();
        Check.same("the first", m.variable(0), 0);
        for (int e = 1; e < 100; e++) {
            int kind = e % (Parts.PLACES + 2);
            int made = kind == 8 ? m.number(e) : kind == 9 ? m.variable(e % 8) : Parts.make(m, kind, 0);
            Check.same("the next, of kind " + kind, made, e);
        }
        Check.fails("the 101st", STATE, () -> m.number(1));
        Check.fails("the 101st, tried again", STATE, () -> m.call(0, 0));
        Check.same("the last one is there", Check.answerOf(() -> m.free(99)), 1 << 99 % 8);
    }

    private static void madeOfEarlierOnes() {
        for (int place = 0; place < Parts.PLACES; place++) {
            TrimmedMachine m = new TrimmedMachine();
            m.number(1);
            m.number(2);
            int tried = place;
            int[] wrong = {2, 3, 99, 100, 256, -1, -2, LEAST, MOST};
            for (int part : wrong) {
                Check.fails(Parts.name(place) + " is " + part, ARGUMENT, () -> Parts.make(m, tried, part));
            }
            Check.same(Parts.name(place) + " is the latest one", Parts.make(m, place, 1), 2);
            Check.same(Parts.name(place) + " is that one", Parts.make(m, place, 2), 3);
            Check.same(Parts.name(place) + " is the first one", Parts.make(m, place, 0), 4);
        }
    }

    private static void atMostTenHigh() {
        for (int place = 0; place < Parts.PLACES; place++) {
            TrimmedMachine m = new TrimmedMachine();
            m.variable(0);
            for (int height = 1; height <= 10; height++) {
                Check.same(Parts.name(place) + ", " + height + " high", Parts.make(m, place, height - 1), height);
            }
            int tried = place;
            Check.fails(Parts.name(place) + ", 11 high", ARGUMENT, () -> Parts.make(m, tried, 10));
            Check.same(Parts.name(place) + ", 10 high again", Parts.make(m, place, 9), 11);
            m.begin(10, 120);
            Check.same("it can be run", Check.answerOf(() -> m.steps(1)), 1);
        }
    }

    private static void heightOfLeaves() {
        for (int leaf = 0; leaf < 2; leaf++) {
            TrimmedMachine m = new TrimmedMachine();
            m.number(1);
            // A leaf made late is as low as an early one.
            for (int e = 1; e <= 20; e++) {
                m.number(e);
            }
            int low = leaf == 0 ? m.number(11) : m.variable(7);
            int e = low;
            for (int height = 1; height <= 10; height++) {
                e = m.operation(0, e, low);
            }
            Check.same("ten above it", e, low + 10);
            int ten = e;
            Check.fails("eleven above it", ARGUMENT, () -> m.operation(0, low, ten));
        }
    }

    private static void highestPartCounts() {
        TrimmedMachine m = new TrimmedMachine();
        int[] high = new int[11];
        high[0] = m.variable(0);
        for (int height = 1; height <= 10; height++) {
            high[height] = m.function(-1, 0, high[height - 1]);
        }
        int made = 11;
        for (int low = 0; low <= 9; low++) {
            int e = m.call(high[9], high[low]);
            int f = m.choice(high[low], high[9], high[8]);
            Check.same("10 high with a part that is " + low + " high", e, made++);
            Check.same("another one", f, made++);
            Check.fails("one above it", ARGUMENT, () -> m.operation(1, high[0], e));
            Check.fails("one above the other", ARGUMENT, () -> m.choice(high[0], f, high[0]));
            // Had the lowest part counted, or the last one, these would be too low to be refused.
            int lower = low;
            Check.fails("f is too high", ARGUMENT, () -> m.call(high[10], high[lower]));
            Check.fails("x is too high", ARGUMENT, () -> m.call(high[lower], high[10]));
        }
        int pair = m.call(high[1], high[2]);
        int e = pair;
        for (int height = 4; height <= 10; height++) {
            e = m.call(e, pair);
        }
        Check.same("not the sum of the heights", e, pair + 7);
        int ten = e;
        Check.fails("but the highest one's and 1", ARGUMENT, () -> m.call(ten, pair));
    }

    private static void variablesAreEight() {
        TrimmedMachine m = new TrimmedMachine();
        int made = 0;
        for (int v = 0; v <= 7; v++) {
            Check.same("variable(" + v + ")", m.variable(v), made++);
        }
        for (int v = 0; v <= 7; v++) {
            Check.same("function(-1, " + v + ", 0)", m.function(-1, v, 0), made++);
            Check.same("function(" + v + ", 0, 0)", m.function(v, 0, 0), made++);
        }
        Check.fails("variable(-1)", ARGUMENT, () -> m.variable(-1));
        Check.fails("variable(8)", ARGUMENT, () -> m.variable(8));
        Check.same("the refused ones took no number", m.variable(7), made);
    }

    private static void freeButVariableAndSelf() {
        TrimmedMachine m = new TrimmedMachine();
        int all = Parts.allVariables(m);
        for (int v = 0; v <= 7; v++) {
            Check.same("without self, of " + v, m.free(m.function(-1, v, all)), 0xff & ~(1 << v));
        }
        for (int v = 0; v <= 7; v++) {
            int self = 7 - v;
            Check.same("self " + self + " of " + v, m.free(m.function(self, v, all)), 0xff & ~(1 << v) & ~(1 << self));
            Check.same("self and variable " + v, m.free(m.function(v, v, all)), 0xff & ~(1 << v));
        }
        int three = m.variable(3);
        Check.same("neither is in the body", m.free(m.function(4, 2, three)), 8);
        Check.same("nothing is left of the variable", m.free(m.function(-1, 3, three)), 0);
        Check.same("nothing is left of the self", m.free(m.function(3, 4, three)), 0);
        Check.same("nothing was free", m.free(m.function(0, 1, m.number(0))), 0);
        int inside = m.function(-1, 3, three);
        Check.same("bound inside, free beside", m.free(m.call(inside, three)), 8);
        int nested = m.function(6, 7, m.function(4, 5, m.function(2, 3, m.function(0, 1, all))));
        Check.same("nothing is left in the end", m.free(nested), 0);
    }

    private static void freeInAPart() {
        for (int place = 0; place < Parts.PLACES; place++) {
            TrimmedMachine m = new TrimmedMachine();
            m.number(0);
            int seven = m.variable(7);
            Check.same(Parts.name(place) + " has one", m.free(Parts.make(m, place, seven)), 0x80);
            Check.same(Parts.name(place) + " has none", m.free(Parts.make(m, place, 0)), 0);
        }
        TrimmedMachine m = new TrimmedMachine();
        int all = Parts.allVariables(m);
        Check.same("all of them", m.free(all), 0xff);
        Check.same("once each", m.free(m.operation(0, all, all)), 0xff);
        Check.same("beside a part without any", m.free(m.call(m.number(1), all)), 0xff);
    }

    private static void anyInt() {
        int[] values = {0, 1, -1, 127, 128, -129, 65536, LEAST, LEAST + 1, MOST, MOST - 1};
        for (int n : values) {
            TrimmedMachine m = new TrimmedMachine();
            int e = m.number(n);
            m.begin(e, 1);
            Check.same("steps of " + n, Check.answerOf(() -> m.steps(500)), 2);
            Check.same("result of " + n, Check.answerOf(m::result), n);
            Check.same("isClosure of " + n, Check.answerOf(m::isClosure), false);
        }
    }

    private static void full() {
        TrimmedMachine m = new TrimmedMachine();
        m.variable(0);
        Parts.fill(m, 1);
        for (int round = 1; round <= 2; round++) {
            Check.fails("number", STATE, () -> m.number(0));
            Check.fails("variable", STATE, () -> m.variable(0));
            for (int place = 0; place < Parts.PLACES; place++) {
                int tried = place;
                Check.fails(Parts.name(place) + " is 0", STATE, () -> Parts.make(m, tried, 0));
                Check.fails(Parts.name(place) + " is 99", STATE, () -> Parts.make(m, tried, 99));
            }
        }
        eachKindAsTheLast();
    }

    private static void eachKindAsTheLast() {
        for (int kind = 0; kind < Parts.PLACES + 2; kind++) {
            TrimmedMachine m = new TrimmedMachine();
            m.variable(0);
            for (int e = 1; e < 99; e++) {
                m.number(e);
            }
            int tried = kind;
            Check.Call call = () -> tried == 8 ? m.number(0) : tried == 9 ? m.variable(7) : Parts.make(m, tried, 98);
            Check.same("the 100th, of kind " + kind, Check.answerOf(call), 99);
            Check.fails("the 101st, of kind " + kind, STATE, call);
        }
    }

    private static void fullAndWrong() {
        TrimmedMachine m = new TrimmedMachine();
        m.variable(0);
        for (int height = 1; height <= 10; height++) {
            m.operation(0, 0, height - 1);
        }
        Parts.fill(m, 11);
        Check.fails("variable(-1)", ARGUMENT, () -> m.variable(-1));
        Check.fails("variable(8)", ARGUMENT, () -> m.variable(8));
        Check.fails("self -2", ARGUMENT, () -> m.function(-2, 0, 0));
        Check.fails("self 8", ARGUMENT, () -> m.function(8, 0, 0));
        Check.fails("function of -1", ARGUMENT, () -> m.function(-1, -1, 0));
        Check.fails("function of 8", ARGUMENT, () -> m.function(-1, 8, 0));
        Check.fails("operation -1", ARGUMENT, () -> m.operation(-1, 0, 0));
        Check.fails("operation 4", ARGUMENT, () -> m.operation(4, 0, 0));
        for (int place = 0; place < Parts.PLACES; place++) {
            int tried = place;
            Check.fails(Parts.name(place) + " is -1", ARGUMENT, () -> Parts.make(m, tried, -1));
            Check.fails(Parts.name(place) + " is 100", ARGUMENT, () -> Parts.make(m, tried, 100));
            Check.fails(Parts.name(place) + " is 10 high", ARGUMENT, () -> Parts.make(m, tried, 10));
            Check.fails(Parts.name(place) + " is 9 high", STATE, () -> Parts.make(m, tried, 9));
        }
    }

    private static void noSuchVariable() {
        TrimmedMachine m = new TrimmedMachine();
        Check.fails("variable(-1)", ARGUMENT, () -> m.variable(-1));
        for (int v : NO_VARIABLES) {
            Check.fails("variable(" + v + ")", ARGUMENT, () -> m.variable(v));
        }
        Check.same("none was made", m.variable(0), 0);
        Check.same("it is the first one's", m.free(0), 1);
    }

    private static void selves() {
        TrimmedMachine m = new TrimmedMachine();
        m.number(3);
        for (int self = -1; self <= 7; self++) {
            Check.same("self " + self, m.function(self, 7, 0), self + 2);
        }
        for (int self : NO_VARIABLES) {
            Check.fails("self " + self, ARGUMENT, () -> m.function(self, 0, 0));
        }
        Check.fails("-1 is for a self alone", ARGUMENT, () -> m.function(-1, -1, 0));
        Check.fails("also beside a self", ARGUMENT, () -> m.function(0, -1, 0));
        // -1 is no variable: with a shift by it, 31 or 7 would be taken out.
        int seven = m.variable(7);
        Check.same("none takes nothing out", m.free(m.function(-1, 0, seven)), 0x80);
    }

    private static void onePartIsNotThere() {
        TrimmedMachine m = new TrimmedMachine();
        m.number(3);
        for (int v : NO_VARIABLES) {
            Check.fails("function of " + v, ARGUMENT, () -> m.function(-1, v, 0));
            Check.fails("function of " + v + " with a self", ARGUMENT, () -> m.function(7, v, 0));
        }
        int[] none = {-1, 1, 100, LEAST, MOST};
        for (int place = 0; place < Parts.PLACES; place++) {
            int tried = place;
            for (int part : none) {
                Check.fails(Parts.name(place) + " is " + part, ARGUMENT, () -> Parts.make(m, tried, part));
            }
        }
        for (int part : none) {
            Check.fails("both of a call are " + part, ARGUMENT, () -> m.call(part, part));
            Check.fails("both of an operation are " + part, ARGUMENT, () -> m.operation(3, part, part));
            Check.fails("all of a choice are " + part, ARGUMENT, () -> m.choice(part, part, part));
        }
        Check.same("none was made", m.number(4), 1);
    }

    private static void tooHigh() {
        TrimmedMachine m = new TrimmedMachine();
        m.variable(0);
        for (int height = 1; height <= 10; height++) {
            m.choice(height - 1, 0, height - 1);
        }
        for (int place = 0; place < Parts.PLACES; place++) {
            int tried = place;
            Check.fails(Parts.name(place) + " is 10 high", ARGUMENT, () -> Parts.make(m, tried, 10));
        }
        Check.fails("a self doesn't matter", ARGUMENT, () -> m.function(1, 0, 10));
        Check.fails("both of a call", ARGUMENT, () -> m.call(10, 10));
        Check.same("none was made", m.function(1, 0, 9), 11);
        Check.fails("that one is 10 high too", ARGUMENT, () -> m.function(1, 0, 11));
    }

    private static void operations() {
        TrimmedMachine m = new TrimmedMachine();
        m.number(3);
        int[] none = {-1, 4, 5, -4, 32, 256, LEAST, MOST};
        for (int op : none) {
            Check.fails("operation(" + op + ", 0, 0)", ARGUMENT, () -> m.operation(op, 0, 0));
        }
        for (int op = 0; op <= 3; op++) {
            Check.same("operation(" + op + ", 0, 0)", m.operation(op, 0, 0), op + 1);
        }
    }

    private static void freeAsBits() {
        TrimmedMachine m = new TrimmedMachine();
        for (int v = 0; v <= 7; v++) {
            Check.same("variable " + v, m.free(m.variable(v)), 1 << v);
        }
        Check.same("none, in a number that has bits", m.free(m.number(-1)), 0);
        Check.same("the first and the last", m.free(m.call(0, 7)), 0x81);
    }

    private static void freeOfNone() {
        TrimmedMachine m = new TrimmedMachine();
        Check.fails("without expressions", ARGUMENT, () -> m.free(0));
        m.variable(1);
        int[] none = {-1, 1, 2, 99, 100, 256, LEAST, MOST};
        for (int e : none) {
            Check.fails("free(" + e + ")", ARGUMENT, () -> m.free(e));
        }
        Check.same("free(0)", m.free(0), 2);
        Parts.fill(m, 1);
        Check.same("free(99) of 100", m.free(99), 0);
        Check.fails("free(100) of 100", ARGUMENT, () -> m.free(100));
        Check.fails("free(-1) of 100", ARGUMENT, () -> m.free(-1));
    }
}
