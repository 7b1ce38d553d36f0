import java.util.Arrays;
import java.util.NoSuchElementException;

/** What the tests of the project share: comparing answers, counting, and writing methods down. */
final class Check {
    static final Class<?> NO_SUCH = NoSuchElementException.class;
    static final Class<?> ARGUMENT = IllegalArgumentException.class;
    static final Class<?> STATE = IllegalStateException.class;

    static final int CONSTANT = 0;
    static final int LOAD = 1;
    static final int STORE = 2;
    static final int LOAD_ARRAY = 3;
    static final int STORE_ARRAY = 4;
    static final int ADD = 5;
    static final int SUBTRACT = 6;
    static final int MULTIPLY = 7;
    static final int DIVIDE = 8;
    static final int REST = 9;
    static final int NEW = 10;
    static final int LENGTH = 11;
    static final int GET = 12;
    static final int PUT = 13;
    static final int GO = 14;
    static final int IF_ZERO = 15;
    static final int IF_LESS = 16;
    static final int IF_SAME = 17;
    static final int NOTHING = 18;
    static final int IF_NOTHING = 19;
    static final int DOUBLE = 20;
    static final int DROP = 21;
    static final int TURN = 22;
    static final int CALL = 23;
    static final int RETURN = 24;
    static final int OUT = 25;

    /** The orders' names, at their numbers. */
    static final String[] NAMES = {"CONSTANT", "LOAD", "STORE", "LOAD_ARRAY", "STORE_ARRAY", "ADD",
        "SUBTRACT", "MULTIPLY", "DIVIDE", "REST", "NEW", "LENGTH", "GET", "PUT", "GO", "IF_ZERO",
        "IF_LESS", "IF_SAME", "NOTHING", "IF_NOTHING", "DOUBLE", "DROP", "TURN", "CALL", "RETURN",
        "OUT"};

    private static int looked = 0;
    private static int wrong = 0;

    private Check() {
    }

    /** A call whose exception is looked at. */
    interface Call {
        void make();
    }

    static void due(String what, long want, long got) {
        looked++;
        if (got != want) {
            wrong++;
            System.out.println(what + " answered " + got + ", due is " + want);
        }
    }

    static void due(String what, boolean want, boolean got) {
        due(what, want ? 1 : 0, got ? 1 : 0);
    }

    static void fails(String what, Class<?> want, Call call) {
        looked++;
        Class<?> got = null;
        try {
            call.make();
        } catch (RuntimeException e) {
            got = e.getClass();
        }
        if (got != want) {
            wrong++;
            System.out.println(what + " threw " + got + ", due is " + want);
        }
    }

    /** Adds instructions, written as order, number, order, number, ... */
    static void code(CodeJudge x, int m, int... pairs) {
        for (int i = 0; i < pairs.length; i += 2) {
            x.add(m, pairs[i], pairs[i + 1]);
        }
    }

    /** Adds instructions, written as "LOAD 0, DOUBLE, GO 2"; a number that is left out is 0. */
    static void write(CodeJudge x, int m, String text) {
        for (String instruction : text.isEmpty() ? new String[0] : text.split(", ")) {
            String[] parts = instruction.split(" ");
            x.add(m, order(parts[0]), parts.length > 1 ? Integer.parseInt(parts[1]) : 0);
        }
    }

    private static int order(String name) {
        int order = Arrays.asList(NAMES).indexOf(name);
        if (order < 0) {
            throw new AssertionError("no order " + name);
        }
        return order;
    }

    /** A method 0 with the parameters told ("ia": an int, an array) and its code. */
    static CodeJudge judging(String parameters, int returns, int locals, int limit, String text) {
        CodeJudge x = new CodeJudge();
        x.method(0, parameters.length(), arrays(parameters), returns, locals, limit);
        write(x, 0, text);
        return x;
    }

    /** The bits of the arrays among types. */
    static int arrays(String types) {
        int bits = 0;
        for (int k = 0; k < types.length(); k++) {
            bits |= types.charAt(k) == 'a' ? 1 << k : 0;
        }
        return bits;
    }

    static void end(String name) {
        System.out.println(name + ": " + looked + " answers, " + wrong + " wrong");
        if (wrong > 0 || looked == 0) {
            System.exit(1);
        }
    }
}
