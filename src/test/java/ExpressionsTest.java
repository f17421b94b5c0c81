/** Promises 1 to 8: a new object, the six kinds of expressions, and what is free in them. */
public final class ExpressionsTest {
    private static final Class<IllegalArgumentException> ARGUMENT = IllegalArgumentException.class;
    private static final Class<IllegalStateException> STATE = IllegalStateException.class;

    public static void main(String[] args) {
        newObject();
        numbers();
        variables();
        functions();
        calls();
        operations();
        choices();
        heights();
        hundredExpressions();
        freeVariables();
        Check.finish();
    }

    private static void newObject() {
        TrimmedMachine m = new TrimmedMachine();
        Check.fails("1: free(0)", ARGUMENT, () -> m.free(0));
        Check.fails("1: begin(0, 1)", ARGUMENT, () -> { m.begin(0, 1); return "nothing"; });
        for (int what = 0; what <= 5; what++) {
            Check.same("1: about(" + what + ")", m.about(what), 0);
        }
        Check.same("1: steps(1)", m.steps(1), 0);
        Check.fails("1: result()", STATE, m::result);
        Check.fails("1: isClosure()", STATE, m::isClosure);
        m.number(4);
        Check.same("1: the objects share nothing", new TrimmedMachine().number(4), 0);
    }

    private static void numbers() {
        TrimmedMachine m = new TrimmedMachine();
        int[] values = {0, -1, Integer.MAX_VALUE, Integer.MIN_VALUE, 0};
        for (int i = 0; i < values.length; i++) {
            Check.same("2: number(" + values[i] + ")", m.number(values[i]), i);
        }
        for (int i = 0; i < values.length; i++) {
            m.begin(i, 1);
            Check.same("2: steps of a number", m.steps(500), 2);
            Check.same("2: result of a number", m.result(), values[i]);
        }
    }

    private static void variables() {
        TrimmedMachine m = new TrimmedMachine();
        int[] none = {-1, 8, 31, 32, 33, Integer.MAX_VALUE, Integer.MIN_VALUE};
        for (int v : none) {
            Check.fails("3: variable(" + v + ")", ARGUMENT, () -> m.variable(v));
        }
        for (int v = 0; v < 8; v++) {
            Check.same("3: variable(" + v + ")", m.variable(v), v);
            Check.same("3: free of a variable", m.free(v), 1 << v);
        }
    }

    private static void functions() {
        TrimmedMachine m = new TrimmedMachine();
        Check.fails("4: no body", ARGUMENT, () -> m.function(-1, 0, 0));
        m.number(1);
        Check.fails("4: self -2", ARGUMENT, () -> m.function(-2, 0, 0));
        Check.fails("4: self 8", ARGUMENT, () -> m.function(8, 0, 0));
        Check.fails("4: variable -1", ARGUMENT, () -> m.function(-1, -1, 0));
        Check.fails("4: variable 8", ARGUMENT, () -> m.function(-1, 8, 0));
        Check.fails("4: body -1", ARGUMENT, () -> m.function(-1, 0, -1));
        Check.fails("4: body 1", ARGUMENT, () -> m.function(-1, 0, 1));
        Check.same("4: no self", m.function(-1, 7, 0), 1);
        Check.same("4: self", m.function(7, 0, 1), 2);
        Check.same("4: self and variable are the same", m.function(0, 0, 2), 3);
    }

    private static void calls() {
        TrimmedMachine m = new TrimmedMachine();
        m.number(1);
        Check.fails("5: f -1", ARGUMENT, () -> m.call(-1, 0));
        Check.fails("5: f 1", ARGUMENT, () -> m.call(1, 0));
        Check.fails("5: x -1", ARGUMENT, () -> m.call(0, -1));
        Check.fails("5: x 1", ARGUMENT, () -> m.call(0, 1));
        Check.fails("5: x out of every row", ARGUMENT, () -> m.call(0, Integer.MAX_VALUE));
        Check.same("5: call(0, 0)", m.call(0, 0), 1);
        Check.same("5: call(1, 0)", m.call(1, 0), 2);
    }

    private static void operations() {
        TrimmedMachine m = new TrimmedMachine();
        m.number(1);
        Check.fails("6: op -1", ARGUMENT, () -> m.operation(-1, 0, 0));
        Check.fails("6: op 4", ARGUMENT, () -> m.operation(4, 0, 0));
        Check.fails("6: x -1", ARGUMENT, () -> m.operation(0, -1, 0));
        Check.fails("6: x 1", ARGUMENT, () -> m.operation(0, 1, 0));
        Check.fails("6: y -1", ARGUMENT, () -> m.operation(3, 0, -1));
        Check.fails("6: y 1", ARGUMENT, () -> m.operation(3, 0, 1));
        for (int op = 0; op < 4; op++) {
            Check.same("6: op " + op, m.operation(op, 0, op), op + 1);
        }
    }

    private static void choices() {
        TrimmedMachine m = new TrimmedMachine();
        m.number(1);
        int[] none = {-1, 1, 100, Integer.MIN_VALUE};
        for (int e : none) {
            Check.fails("7: c " + e, ARGUMENT, () -> m.choice(e, 0, 0));
            Check.fails("7: a " + e, ARGUMENT, () -> m.choice(0, e, 0));
            Check.fails("7: b " + e, ARGUMENT, () -> m.choice(0, 0, e));
        }
        Check.same("7: choice(0, 0, 0)", m.choice(0, 0, 0), 1);
        Check.same("7: choice(0, 1, 0)", m.choice(0, 1, 0), 2);
    }

    private static void heights() {
        TrimmedMachine m = new TrimmedMachine();
        m.variable(0);
        for (int height = 1; height <= 10; height++) {
            int below = height - 1;
            // Each kind counts, and so does each part: the highest is put into another one every time.
            int e;
            switch (height % 5) {
                case 0: e = m.choice(0, 0, below); break;
                case 1: e = m.function(-1, 0, below); break;
                case 2: e = m.call(0, below); break;
                case 3: e = m.operation(0, 0, below); break;
                default: e = m.choice(0, below, 0); break;
            }
            Check.same("an expression " + height + " high", e, height);
        }
        Check.fails("4: too high", ARGUMENT, () -> m.function(-1, 0, 10));
        Check.fails("5: too high f", ARGUMENT, () -> m.call(10, 0));
        Check.fails("5: too high x", ARGUMENT, () -> m.call(0, 10));
        Check.fails("6: too high x", ARGUMENT, () -> m.operation(0, 10, 0));
        Check.fails("6: too high y", ARGUMENT, () -> m.operation(0, 0, 10));
        Check.fails("7: too high c", ARGUMENT, () -> m.choice(10, 0, 0));
        Check.fails("7: too high a", ARGUMENT, () -> m.choice(0, 10, 0));
        Check.fails("7: too high b", ARGUMENT, () -> m.choice(0, 0, 10));
        Check.same("nothing was made of what was refused", m.call(9, 9), 11);
    }

    private static void hundredExpressions() {
        TrimmedMachine m = new TrimmedMachine();
        m.variable(0);
        for (int e = 1; e <= 10; e++) {
            m.function(-1, 0, e - 1);
        }
        for (int e = 11; e < 100; e++) {
            Check.same("2: number " + e, m.number(e), e);
        }
        Check.fails("2: full", STATE, () -> m.number(0));
        Check.fails("3: full", STATE, () -> m.variable(7));
        Check.fails("4: full", STATE, () -> m.function(-1, 0, 0));
        Check.fails("5: full", STATE, () -> m.call(0, 99));
        Check.fails("6: full", STATE, () -> m.operation(0, 0, 99));
        Check.fails("7: full", STATE, () -> m.choice(0, 0, 99));
        Check.fails("3: arguments are looked at first", ARGUMENT, () -> m.variable(8));
        Check.fails("4: arguments are looked at first", ARGUMENT, () -> m.function(-2, 0, 0));
        Check.fails("4: the height is looked at first", ARGUMENT, () -> m.function(-1, 0, 10));
        Check.fails("5: arguments are looked at first", ARGUMENT, () -> m.call(0, 100));
        Check.fails("5: the height is looked at first", ARGUMENT, () -> m.call(0, 10));
        Check.fails("6: arguments are looked at first", ARGUMENT, () -> m.operation(4, 0, 0));
        Check.fails("7: arguments are looked at first", ARGUMENT, () -> m.choice(0, 0, 100));
        Check.same("8: the last expression", m.free(99), 0);
        Check.fails("8: one behind the last", ARGUMENT, () -> m.free(100));
        m.begin(99, 1);
        Check.same("9: the last expression runs", m.steps(9), 2);
        Check.same("12: its result", m.result(), 99);
    }

    private static void freeVariables() {
        TrimmedMachine m = new TrimmedMachine();
        for (int v = 0; v < 8; v++) {
            m.variable(v);
        }
        int five = m.number(5);
        Check.same("8: number", m.free(five), 0);
        int sum = m.operation(0, 0, 7);
        Check.same("8: operation", m.free(sum), 0x81);
        int call = m.call(sum, 3);
        Check.same("8: call", m.free(call), 0x89);
        int choice = m.choice(1, call, 2);
        Check.same("8: choice", m.free(choice), 0x8f);
        Check.same("8: function without self", m.free(m.function(-1, 7, choice)), 0x0f);
        Check.same("8: function with self", m.free(m.function(0, 7, choice)), 0x0e);
        Check.same("8: self and variable are the same", m.free(m.function(3, 3, choice)), 0x87);
        Check.same("8: they aren't in the body", m.free(m.function(5, 6, choice)), 0x8f);
        int inner = m.function(-1, 0, sum);
        Check.same("8: free outside of the function", m.free(m.call(inner, 0)), 0x81);
        Check.fails("8: free(-1)", ARGUMENT, () -> m.free(-1));
        Check.fails("8: free(99)", ARGUMENT, () -> m.free(99));
    }
}
