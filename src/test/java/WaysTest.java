import java.util.Set;
import java.util.TreeSet;

/**
 * Promises 6 to 14 on many made-up methods: what the judge says against every single way of them,
 * and what the machine does against a plain one.
 */
public final class WaysTest {
    private static final int ROUNDS = 3000;
    private static final int[] TAKES_ONE = {Check.NEW, Check.OUT, Check.IF_ZERO};
    private static final int[] TAKES_TWO = {Check.ADD, Check.SUBTRACT, Check.MULTIPLY, Check.DIVIDE,
        Check.REST, Check.IF_LESS, Check.IF_SAME};

    private static long seed = 20261115;
    private static int goodOnes = 0;
    private static int badOnes = 0;
    private static int runs = 0;
    private static final int[] outcomes = new int[8];

    public static void main(String[] args) {
        for (int round = 0; round < ROUNDS; round++) {
            PlainMethod[] methods = new PlainMethod[8];
            int many = 1 + below(4);
            for (int m = 0; m < many; m++) {
                methods[m] = signature();
            }
            for (int m = 0; m < many; m++) {
                fill(methods, methods[m], many);
            }
            // More than 512 calls on one object: the class answers on as before, and that is used.
            judge(methods, many);
            runAll(methods, many);
        }
        System.out.println("good " + goodOnes + ", bad " + badOnes + ", runs " + runs
                + ", outcomes " + java.util.Arrays.toString(outcomes));
        Check.due("enough good ones", true, goodOnes > 500);
        Check.due("enough bad ones", true, badOnes > 500);
        for (int outcome = 0; outcome < 8; outcome++) {
            Check.due("outcome " + outcome + " was seen", true, outcomes[outcome] > 0);
        }
        Check.end("WaysTest");
    }

    private static int below(int bound) {
        seed = seed * 6364136223846793005L + 1442695040888963407L;
        return (int) ((seed >>> 33) % bound);
    }

    private static boolean seldom(int often) {
        return below(often) == 0;
    }

    private static PlainMethod signature() {
        StringBuilder parameters = new StringBuilder();
        for (int k = below(4); k > 0; k--) {
            parameters.append(seldom(3) ? 'a' : 'i');
        }
        String returns = new String[] {"", "i", "a"}[below(3)];
        int locals = Math.max(parameters.length(), below(6));
        return new PlainMethod(parameters.toString(), returns, locals, 3 + below(5));
    }

    /** Writes code that is good as long as no way spoils it: goes only with an empty stack. */
    private static void fill(PlainMethod[] methods, PlainMethod method, int many) {
        StringBuilder stack = new StringBuilder();
        StringBuilder locals = new StringBuilder(method.parameters);
        while (locals.length() < method.locals) {
            locals.append('-');
        }
        Set<Integer> empty = new TreeSet<>();
        int length = 4 + below(24);
        while (method.code.size() < length) {
            if (stack.length() == 0) {
                empty.add(method.code.size());
            }
            write(methods, method, many, stack, locals);
        }
        while (stack.length() > 0) {
            put(method, Check.DROP, 0);
            stack.setLength(stack.length() - 1);
        }
        empty.add(method.code.size());
        if (!method.returns.isEmpty()) {
            put(method, method.returns.equals("i") ? Check.CONSTANT : Check.NOTHING, below(9));
        }
        put(method, Check.RETURN, 0);
        aim(method, empty);
    }

    private static void put(PlainMethod method, int order, int v) {
        method.code.add(new int[] {order, v});
    }

    private static void write(PlainMethod[] methods, PlainMethod method, int many,
            StringBuilder stack, StringBuilder locals) {
        String s = stack.toString();
        int high = s.length();
        if (seldom(150)) {
            put(method, below(26), below(12) - 2);
        } else if (s.endsWith("aii") && seldom(2)) {
            put(method, Check.PUT, 0);
            stack.setLength(high - 3);
        } else if (s.endsWith("ai") && seldom(2)) {
            put(method, Check.GET, 0);
            stack.setLength(high - 2);
            stack.append('i');
        } else if (s.endsWith("ii") && seldom(2)) {
            writeOnTwo(method, stack);
        } else if (high > 0 && seldom(3)) {
            writeOnOne(method, stack, locals);
        } else if (high > 1 && seldom(8)) {
            put(method, Check.TURN, 0);
            stack.setLength(high - 2);
            stack.append(s.charAt(high - 1)).append(s.charAt(high - 2));
        } else if (seldom(6)) {
            writeCall(methods, method, many, stack);
        } else if (high < method.limit || seldom(40)) {
            writePut(method, stack, locals);
        } else {
            put(method, Check.DROP, 0);
            stack.setLength(high - 1);
        }
    }

    private static void writeOnTwo(PlainMethod method, StringBuilder stack) {
        int order = TAKES_TWO[below(TAKES_TWO.length)];
        boolean leaps = order == Check.IF_LESS || order == Check.IF_SAME;
        if (leaps && stack.length() > 2) {
            order = Check.ADD;
            leaps = false;
        }
        put(method, order, 0);
        stack.setLength(stack.length() - 2);
        if (!leaps) {
            stack.append('i');
        }
    }

    private static void writeOnOne(PlainMethod method, StringBuilder stack, StringBuilder locals) {
        int high = stack.length();
        boolean isInt = stack.charAt(high - 1) == 'i';
        stack.setLength(high - 1);
        if (method.locals > 0 && seldom(3)) {
            int v = below(method.locals);
            put(method, isInt ? Check.STORE : Check.STORE_ARRAY, v);
            locals.setCharAt(v, isInt ? 'i' : 'a');
            return;
        }
        int order = TAKES_ONE[below(TAKES_ONE.length)];
        if (order == Check.IF_ZERO && high > 1) {
            order = Check.OUT;
        }
        if (!isInt) {
            order = high == 1 && seldom(2) ? Check.IF_NOTHING : Check.LENGTH;
        }
        put(method, order, 0);
        if (order == Check.NEW) {
            stack.append('a');
        } else if (order == Check.LENGTH) {
            stack.append('i');
        }
    }

    private static void writeCall(PlainMethod[] methods, PlainMethod method, int many,
            StringBuilder stack) {
        int v = below(many);
        String takes = methods[v].parameters;
        if (stack.toString().endsWith(takes)
                && stack.length() - takes.length() + methods[v].returns.length() <= method.limit) {
            put(method, Check.CALL, v);
            stack.setLength(stack.length() - takes.length());
            stack.append(methods[v].returns);
        }
    }

    private static void writePut(PlainMethod method, StringBuilder stack, StringBuilder locals) {
        int v = method.locals == 0 ? 0 : below(method.locals);
        char type = method.locals == 0 ? '-' : locals.charAt(v);
        int kind = below(8);
        if (kind < 4 && type != '-') {
            put(method, type == 'i' ? Check.LOAD : Check.LOAD_ARRAY, v);
            stack.append(type);
        } else if (kind == 4 && stack.length() > 0) {
            put(method, Check.DOUBLE, 0);
            stack.append(stack.charAt(stack.length() - 1));
        } else if (kind == 5) {
            put(method, Check.NOTHING, 0);
            stack.append('a');
        } else {
            put(method, Check.CONSTANT, seldom(12) ? below(2500) - 200 : below(7) - 1);
            stack.append('i');
        }
    }

    /** Lets each IF go to a place where the stack is empty, or seldom anywhere. */
    private static void aim(PlainMethod method, Set<Integer> empty) {
        Integer[] places = empty.toArray(new Integer[0]);
        for (int[] instruction : method.code) {
            int order = instruction[0];
            if (order >= Check.IF_ZERO && order <= Check.IF_SAME || order == Check.IF_NOTHING) {
                instruction[1] = seldom(30) ? below(method.code.size() + 2) - 1
                        : places[below(places.length)];
            }
        }
    }

    private static CodeJudge written(PlainMethod[] methods, int many) {
        CodeJudge x = new CodeJudge();
        for (int m = 0; m < many; m++) {
            PlainMethod method = methods[m];
            int returns = method.returns.isEmpty() ? 0 : method.returns.equals("i") ? 1 : 2;
            x.method(m, method.parameters.length(), method.arrays(), returns, method.locals,
                    method.limit);
            for (int[] instruction : method.code) {
                x.add(m, instruction[0], instruction[1]);
            }
        }
        return x;
    }

    private static void judge(PlainMethod[] methods, int many) {
        CodeJudge x = written(methods, many);
        int good = 0;
        for (int m = 0; m < many; m++) {
            int each = m;
            PlainMethod method = methods[m];
            method.judge(methods);
            Check.due("good(" + m + ")", method.good, x.good(m));
            if (method.good) {
                good++;
                lookAtPlaces(written(methods, many), m, method);
            } else {
                badOnes++;
                Check.fails("height, not good", Check.STATE, () -> x.height(each, 0));
            }
        }
        goodOnes += good;
        Check.due("good ones", good, x.count(2));
    }

    private static void lookAtPlaces(CodeJudge x, int m, PlainMethod method) {
        for (int place = 0; place < method.code.size(); place++) {
            int high = method.height(place);
            Check.due("height", high, x.height(m, place));
            for (int k = 0; k <= high; k++) {
                Check.due("type on stack", method.stackType(place, k), x.type(m, place, 0, k));
            }
            for (int k = 0; k < method.locals; k++) {
                Check.due("type in locals", method.localType(place, k), x.type(m, place, 1, k));
            }
        }
    }

    private static boolean mayStart(PlainMethod[] methods, int m) {
        Set<Integer> all = new TreeSet<>();
        all.add(m);
        for (int turn = 0; turn < methods.length; turn++) {
            for (int each : all.toArray(new Integer[0])) {
                all.addAll(methods[each].called);
            }
        }
        for (int each : all) {
            if (!methods[each].good) {
                return false;
            }
        }
        return true;
    }

    private static void runAll(PlainMethod[] methods, int many) {
        CodeJudge x = written(methods, many);
        for (int m = 0; m < many; m++) {
            int each = m;
            int[] given = {below(9), below(9), below(9), below(9)};
            if (!mayStart(methods, m)) {
                Check.fails("start", Check.STATE,
                        () -> x.start(each, given[0], given[1], given[2], given[3]));
                continue;
            }
            runs++;
            PlainMachine plain = new PlainMachine(methods, m, given);
            x.start(m, given[0], given[1], given[2], given[3]);
            lookAtRun(x, plain, methods);
            for (int n : new int[] {1, 1, 7, 30, 2000}) {
                Check.due("run", plain.run(n), x.run(n));
                lookAtRun(x, plain, methods);
            }
            outcomes[plain.outcome]++;
        }
    }

    private static void lookAtRun(CodeJudge x, PlainMachine plain, PlainMethod[] methods) {
        boolean ended = plain.frames.isEmpty();
        int[] due = {plain.outcome, plain.steps, plain.frames.size(),
            ended ? -1 : plain.upper().number, ended ? -1 : plain.upper().place, plain.returned,
            plain.arrays.size(), plain.cells, plain.output.size()};
        for (int what = 0; what <= 8; what++) {
            Check.due("state " + what, due[what], x.state(what));
        }
        if (ended) {
            Check.fails("value, ended", Check.NO_SUCH, () -> x.value(1, 0));
        } else {
            lookAtFrame(x, plain.upper());
        }
        for (int array = 0; array < plain.arrays.size(); array++) {
            int[] cells = plain.arrays.get(array);
            Check.due("length", cells.length, x.cell(array, -1));
            for (int k = 0; k < cells.length; k++) {
                Check.due("cell", cells[k], x.cell(array, k));
            }
        }
        for (int k = Math.max(0, plain.output.size() - 100); k < plain.output.size(); k++) {
            Check.due("output", plain.output.get(k), x.output(k));
        }
    }

    private static void lookAtFrame(CodeJudge x, PlainMachine.Frame frame) {
        for (int k = 0; k < frame.stack.size(); k++) {
            Check.due("stack", frame.stack.get(k), x.value(0, k));
        }
        Check.fails("above the stack", Check.NO_SUCH, () -> x.value(0, frame.stack.size()));
        for (int k = 0; k < frame.locals.length; k++) {
            Check.due("local", frame.locals[k], x.value(1, k));
        }
        Check.fails("no such local", Check.NO_SUCH, () -> x.value(1, frame.locals.length));
    }
}
