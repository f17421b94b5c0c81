/** Makes expressions by the places that a part can stand in, so that a test can go through all of them. */
final class Parts {
    /** body of a function; f and x of a call; x and y of an operation; c, a and b of a choice. */
    static final int PLACES = 8;
    private static final String[] NAMES = {
        "the body of a function", "f of a call", "x of a call", "x of an operation", "y of an operation",
        "c of a choice", "a of a choice", "b of a choice",
    };

    private Parts() {
    }

    static String name(int place) {
        return NAMES[place];
    }

    /** An expression with this part at this place, and expression 0 at its other ones. */
    static int make(TrimmedMachine m, int place, int part) {
        return switch (place) {
            case 0 -> m.function(-1, 0, part);
            case 1 -> m.call(part, 0);
            case 2 -> m.call(0, part);
            case 3 -> m.operation(0, part, 0);
            case 4 -> m.operation(0, 0, part);
            case 5 -> m.choice(part, 0, 0);
            case 6 -> m.choice(0, part, 0);
            default -> m.choice(0, 0, part);
        };
    }

    /** Makes numbers until there are 100 expressions. */
    static void fill(TrimmedMachine m, int made) {
        for (int e = made; e < 100; e++) {
            m.number(e);
        }
    }

    /** An expression 2 high in which all eight variables are free. */
    static int allVariables(TrimmedMachine m) {
        int[] v = new int[8];
        for (int i = 0; i < 8; i++) {
            v[i] = m.variable(i);
        }
        return m.choice(m.choice(v[0], v[1], v[2]), m.choice(v[3], v[4], v[5]), m.operation(0, v[6], v[7]));
    }
}
