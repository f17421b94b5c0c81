import java.util.ArrayList;
import java.util.IdentityHashMap;
import java.util.List;
import java.util.Map;
import java.util.NoSuchElementException;
import java.util.Set;
import java.util.TreeMap;
import java.util.TreeSet;

/**
 * The document's words once more, with maps and objects that are never changed: slow, and of another
 * build than the program, so that both hardly have the same fault.
 */
final class Model {
    record Expression(String kind, int a, int b, int c) {
    }

    /** A closure, told from others by which object it is. */
    static final class Closure {
        final int function;
        final Map<Integer, Object> held;

        Closure(int function, Map<Integer, Object> held) {
            this.function = function;
            this.held = held;
        }
    }

    record Frame(String kind, int e, Map<Integer, Object> environment, Object value) {
    }

    private static final Map<Integer, Object> NOTHING = new TreeMap<>();

    private final List<Expression> expressions = new ArrayList<>();
    private List<Frame> frames = new ArrayList<>();
    private Map<Integer, Object> environment = NOTHING;
    private int evaluated = -1;
    private Object returned = null;
    private int status = 0;
    private int capacity = 0;
    private int stepsDone = 0;
    private int peak = 0;

    private int add(String kind, int a, int b, int c, int... parts) {
        for (int part : parts) {
            checkExpression(part);
        }
        Expression e = new Expression(kind, a, b, c);
        check(height(e) <= 10);
        if (expressions.size() == 100) {
            throw new IllegalStateException();
        }
        expressions.add(e);
        return expressions.size() - 1;
    }

    private static void check(boolean right) {
        if (!right) {
            throw new IllegalArgumentException();
        }
    }

    private void checkExpression(int e) {
        check(e >= 0 && e < expressions.size());
    }

    private static List<Integer> parts(Expression e) {
        return switch (e.kind) {
            case "function" -> List.of(e.c);
            case "call" -> List.of(e.a, e.b);
            case "operation" -> List.of(e.b, e.c);
            case "choice" -> List.of(e.a, e.b, e.c);
            default -> List.of();
        };
    }

    private int height(Expression e) {
        int height = 0;
        for (int part : parts(e)) {
            height = Math.max(height, 1 + height(expressions.get(part)));
        }
        return height;
    }

    private Set<Integer> freeIn(int number) {
        Expression e = expressions.get(number);
        Set<Integer> found = new TreeSet<>();
        for (int part : parts(e)) {
            found.addAll(freeIn(part));
        }
        if (e.kind.equals("variable")) {
            found.add(e.a);
        }
        if (e.kind.equals("function")) {
            found.remove(e.a);
            found.remove(e.b);
        }
        return found;
    }

    int number(int n) {
        return add("number", n, 0, 0);
    }

    int variable(int v) {
        check(v >= 0 && v <= 7);
        return add("variable", v, 0, 0);
    }

    int function(int self, int v, int body) {
        check(self >= -1 && self <= 7 && v >= 0 && v <= 7);
        return add("function", self, v, body, body);
    }

    int call(int f, int x) {
        return add("call", f, x, 0, f, x);
    }

    int operation(int op, int x, int y) {
        check(op >= 0 && op <= 3);
        return add("operation", op, x, y, x, y);
    }

    int choice(int c, int a, int b) {
        return add("choice", c, a, b, c, a, b);
    }

    int free(int e) {
        checkExpression(e);
        int bits = 0;
        for (int v : freeIn(e)) {
            bits += 1 << v;
        }
        return bits;
    }

    void begin(int e, int most) {
        checkExpression(e);
        check(most >= 1 && most <= 120);
        frames = new ArrayList<>();
        environment = NOTHING;
        evaluated = e;
        returned = null;
        status = 1;
        capacity = most;
        stepsDone = 0;
        peak = 0;
    }

    int steps(int n) {
        check(n >= 1 && n <= 500);
        int before = stepsDone;
        for (int i = 0; i < n && status == 1; i++) {
            try {
                step();
            } catch (RuntimeException e) {
                status = 3;
                throw e;
            }
            stepsDone++;
        }
        return stepsDone - before;
    }

    int about(int what) {
        boolean goesOn = status == 1;
        return switch (what) {
            case 0 -> status;
            case 1 -> stepsDone;
            case 2 -> goesOn ? space() : 0;
            case 3 -> peak;
            case 4 -> goesOn ? frames.size() : 0;
            case 5 -> goesOn ? closures().size() : 0;
            default -> -1;
        };
    }

    int result() {
        if (status != 2) {
            throw new IllegalStateException();
        }
        return returned instanceof Closure closure ? closure.function : (Integer) returned;
    }

    boolean isClosure() {
        if (status != 2) {
            throw new IllegalStateException();
        }
        return returned instanceof Closure;
    }

    private void step() {
        if (evaluated >= 0) {
            evaluateOne(expressions.get(evaluated));
        } else if (frames.isEmpty()) {
            status = 2;
            return;
        } else {
            returnOne(frames.remove(frames.size() - 1), returned);
        }
        int space = space();
        if (space > capacity) {
            throw new IllegalStateException();
        }
        peak = Math.max(peak, space);
    }

    private void evaluateOne(Expression e) {
        switch (e.kind) {
            case "number" -> giveBack(e.a);
            case "variable" -> {
                if (!environment.containsKey(e.a)) {
                    throw new NoSuchElementException();
                }
                giveBack(environment.get(e.a));
            }
            case "function" -> giveBack(new Closure(evaluated, trimmed(environment, freeIn(evaluated))));
            case "call" -> waitWith("ARGUMENT", freeIn(e.b), e.a);
            case "operation" -> waitWith("RIGHT", freeIn(e.c), e.b);
            default -> {
                Set<Integer> both = freeIn(e.b);
                both.addAll(freeIn(e.c));
                waitWith("BRANCH", both, e.a);
            }
        }
    }

    private void returnOne(Frame frame, Object v) {
        Expression e = expressions.get(frame.e);
        switch (frame.kind) {
            case "ARGUMENT" -> {
                frames.add(new Frame("APPLY", frame.e, NOTHING, v));
                evaluateIn(e.b, frame.environment);
            }
            case "RIGHT" -> {
                frames.add(new Frame("LEFT", frame.e, NOTHING, v));
                evaluateIn(e.c, frame.environment);
            }
            case "LEFT" -> giveBack(operate(e.a, asInt(frame.value), asInt(v)));
            case "BRANCH" -> evaluateIn(asInt(v) != 0 ? e.b : e.c, frame.environment);
            default -> apply(frame.value, v);
        }
    }

    private void apply(Object f, Object v) {
        if (!(f instanceof Closure closure)) {
            throw new UnsupportedOperationException();
        }
        Expression function = expressions.get(closure.function);
        Map<Integer, Object> given = new TreeMap<>(closure.held);
        given.put(function.b, v);
        if (function.a >= 0) {
            given.put(function.a, closure);
        }
        evaluateIn(function.c, given);
    }

    private static int asInt(Object value) {
        if (value instanceof Closure) {
            throw new UnsupportedOperationException();
        }
        return (Integer) value;
    }

    private static int operate(int op, int u, int v) {
        long wide = switch (op) {
            case 0 -> (long) u + v;
            case 1 -> (long) u - v;
            case 2 -> (long) u * v;
            default -> (long) u - v < 0 ? 1 : 0;
        };
        return (int) wide;
    }

    private void giveBack(Object value) {
        evaluated = -1;
        returned = value;
        environment = NOTHING;
    }

    private void waitWith(String kind, Set<Integer> wanted, int first) {
        frames.add(new Frame(kind, evaluated, trimmed(environment, wanted), null));
        evaluateIn(first, environment);
    }

    private void evaluateIn(int e, Map<Integer, Object> given) {
        evaluated = e;
        returned = null;
        environment = trimmed(given, freeIn(e));
    }

    private static Map<Integer, Object> trimmed(Map<Integer, Object> given, Set<Integer> wanted) {
        Map<Integer, Object> left = new TreeMap<>(given);
        left.keySet().retainAll(wanted);
        return left;
    }

    private int space() {
        int space = environment.size() + (returned == null ? 0 : 1);
        for (Frame frame : frames) {
            space += 1 + frame.environment.size() + (frame.value == null ? 0 : 1);
        }
        for (Closure closure : closures()) {
            space += 1 + closure.held.size();
        }
        return space;
    }

    private Set<Closure> closures() {
        Map<Closure, Boolean> found = new IdentityHashMap<>();
        find(returned, found);
        findAll(environment, found);
        for (Frame frame : frames) {
            find(frame.value, found);
            findAll(frame.environment, found);
        }
        return found.keySet();
    }

    private static void findAll(Map<Integer, Object> given, Map<Closure, Boolean> found) {
        for (Object value : given.values()) {
            find(value, found);
        }
    }

    private static void find(Object value, Map<Closure, Boolean> found) {
        if (value instanceof Closure closure && found.put(closure, true) == null) {
            findAll(closure.held, found);
        }
    }
}
