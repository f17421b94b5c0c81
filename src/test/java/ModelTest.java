import java.util.ArrayList;
import java.util.List;

/** Long runs of calls, each answered by the program and by the model; the first that differ are told. */
public final class ModelTest {
    private static final int RUNS = 5000;
    // An object is good for so many; what it answers behind them is free.
    private static final int CALLS = 512;

    private final TrimmedMachine machine = new TrimmedMachine();
    private final Model model = new Model();
    private final String name;
    private long seed;
    private int made = 0;
    private int calls = 0;
    private final List<Integer> whole = new ArrayList<>();
    private final int[] orders = {-1, -1, -1, -1, -1, -1, -1, -1};

    // What the runs came to: a test whose runs all fail at once would tell nothing.
    private static final int[] statuses = new int[4];
    private static int mostFrames = 0;
    private static int mostClosures = 0;
    private static int mostPeak = 0;
    private static int mostSteps = 0;

    private ModelTest(int run) {
        name = "run " + run;
        seed = run * 7919L + 17;
    }

    public static void main(String[] args) {
        for (int run = 0; run < RUNS && Check.wrongAnswers() == 0; run++) {
            new ModelTest(run).runAll();
        }
        Check.same("runs that went on, ended and failed are many",
            statuses[1] > 1000 && statuses[2] > 1000 && statuses[3] > 1000, true);
        Check.same("deep runs are among them", mostFrames > 60 && mostClosures > 20 && mostPeak == 120, true);
        Check.same("long runs are among them", mostSteps > 3000, true);
        System.out.println("went on " + statuses[1] + ", ended " + statuses[2] + ", failed " + statuses[3]
            + ", frames up to " + mostFrames + ", closures up to " + mostClosures
            + ", peaks up to " + mostPeak + ", steps up to " + mostSteps);
        Check.finish();
    }

    /** A number from 0 to below - 1, the same in every run of the test. */
    private int pick(int below) {
        seed = seed * 6364136223846793005L + 1442695040888963407L;
        return (int) ((seed >>> 33) % below);
    }

    private void runAll() {
        if (pick(3) > 0) {
            while (made < 60) {
                typed(pick(3), 10);
                whole.add(made - 1);
            }
        }
        int expressions = 100 - made + pick(9);
        for (int i = 0; i < expressions; i++) {
            makeExpression();
        }
        while (calls < CALLS && Check.wrongAnswers() == 0) {
            doRun();
        }
    }

    /**
     * An expression at most so high that is an int (order 0), a function from ints to ints (1), or from
     * such functions to such functions (2): its runs don't fail by wrong kinds, so they go deep.
     */
    private int typed(int order, int height) {
        if (height <= order || pick(9) == 0 || made > 80) {
            return leaf(order);
        }
        int low = height - 1;
        int kind = pick(6);
        if (kind == 0) {
            return add("choice", typed(0, low), typed(order, low), typed(order, low));
        }
        if (kind < 3) {
            return add("call", typed(Math.min(order + 1, 2), low), typed(order == 2 ? 1 : order, low), 0);
        }
        if (order == 0) {
            return add("operation", pick(4), typed(0, low), typed(0, low));
        }
        return typedFunction(order, low);
    }

    private int typedFunction(int order, int low) {
        int v = pick(8);
        int self = pick(3) == 0 ? -1 : pick(8);
        int[] before = orders.clone();
        orders[v] = order - 1;
        if (self >= 0) {
            orders[self] = order;
        }
        int body = typed(order - 1, low);
        System.arraycopy(before, 0, orders, 0, 8);
        return add("function", self, v, body);
    }

    private int leaf(int order) {
        int from = pick(8);
        for (int i = 0; i < 8; i++) {
            int v = (from + i) % 8;
            if (orders[v] == order && pick(8) > 0) {
                return add("variable", v, 0, 0);
            }
        }
        if (order == 0) {
            return add("number", small(), 0, 0);
        }
        int v = order - 1 + pick(2) * 4;
        return add("function", -1, v, add("variable", v, 0, 0));
    }

    private int add(String kind, int a, int b, int c) {
        makeBoth(kind, a, b, c);
        return made - 1;
    }

    private void makeBoth(String kind, int a, int b, int c) {
        String call = kind + "(" + a + ", " + b + ", " + c + ")";
        switch (kind) {
            case "number" -> compare(call, () -> machine.number(a), () -> model.number(a));
            case "variable" -> compare(call, () -> machine.variable(a), () -> model.variable(a));
            case "function" -> compare(call, () -> machine.function(a, b, c), () -> model.function(a, b, c));
            case "call" -> compare(call, () -> machine.call(a, b), () -> model.call(a, b));
            case "operation" -> compare(call, () -> machine.operation(a, b, c), () -> model.operation(a, b, c));
            default -> compare(call, () -> machine.choice(a, b, c), () -> model.choice(a, b, c));
        }
        if (pick(4) == 0) {
            compare("free(" + made + ")", () -> machine.free(made), () -> model.free(made));
        }
        while (Check.answerOf(() -> model.free(made)) instanceof Integer) {
            made++;
        }
    }

    private void compare(String call, Check.Call got, Check.Call due) {
        if (calls == CALLS) {
            return;
        }
        calls++;
        Check.same(name + ": " + call, Check.answerOf(got), Check.answerOf(due));
    }

    private int variable() {
        return pick(60) == 0 ? pick(12) - 2 : pick(pick(4) == 0 ? 8 : 3);
    }

    private int part() {
        if (pick(80) == 0) {
            return pick(112) - 4;
        }
        int near = Math.min(made, 12);
        return pick(3) == 0 ? pick(made + 1) : Math.max(0, made - 1 - pick(near + 1));
    }

    private int small() {
        return pick(12) == 0 ? (int) (seed >>> 20) : pick(6) - 1;
    }

    private void makeExpression() {
        int a = part();
        int b = part();
        int c = part();
        int v = variable();
        int n = small();
        int self = pick(3) == 0 ? -1 : variable();
        int op = pick(40) == 0 ? pick(9) - 3 : pick(4);
        switch (pick(12)) {
            case 0 -> makeBoth("number", n, 0, 0);
            case 1, 2 -> makeBoth("variable", v, 0, 0);
            case 3, 4, 5 -> makeBoth("function", self, v, a);
            case 6, 7, 8, 9 -> makeBoth("call", a, b, 0);
            case 10 -> makeBoth("operation", op, a, b);
            default -> makeBoth("choice", a, b, c);
        }
    }

    private void doRun() {
        int e = whole.isEmpty() || pick(4) == 0 ? part() : whole.get(pick(whole.size()));
        int capacity = pick(30) == 0 ? pick(125) - 2 : 1 + pick(pick(2) == 0 ? 120 : 20);
        compare("begin(" + e + ", " + capacity + ")",
            () -> { machine.begin(e, capacity); return "done"; },
            () -> { model.begin(e, capacity); return "done"; });
        int turns = 1 + pick(pick(6) == 0 ? 30 : 5);
        for (int turn = 0; turn < turns; turn++) {
            int n = pick(40) == 0 ? pick(600) - 50 : 1 + pick(pick(3) == 0 ? 500 : 9);
            compare("steps(" + n + ") of " + e, () -> machine.steps(n), () -> model.steps(n));
            compareSome();
        }
        compareAll();
        statuses[model.about(0)]++;
    }

    private void compareSome() {
        compareAbout(pick(8) - 1);
        compareAbout(2 + pick(4));
        if (pick(6) == 0) {
            compare("result()", machine::result, model::result);
        }
        mostFrames = Math.max(mostFrames, model.about(4));
        mostClosures = Math.max(mostClosures, model.about(5));
    }

    private void compareAll() {
        for (int what = -1; what <= 6; what++) {
            compareAbout(what);
        }
        compare("result()", machine::result, model::result);
        compare("isClosure()", machine::isClosure, model::isClosure);
        mostPeak = Math.max(mostPeak, model.about(3));
        mostSteps = Math.max(mostSteps, model.about(1));
    }

    private void compareAbout(int what) {
        compare("about(" + what + ")", () -> machine.about(what), () -> model.about(what));
    }
}
