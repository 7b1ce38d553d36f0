/** Promises 6 to 8: good, height and type. */
public final class JudgeTest {
    private static final int INT = 1;
    private static final int ARRAY = 2;

    public static void main(String[] args) {
        refusals();
        ordersTakeTheirTypes();
        ordersPutTheirTypes();
        anyIsTaken();
        limits();
        numbersMustBeThere();
        endsOfCode();
        returns();
        calls();
        waysMeet();
        localsOnWays();
        deadCode();
        shapes();
        longChains();
        Check.end("JudgeTest");
    }

    /** Whether a method 0 with an int as local 0, an array as local 1 and two others is good. */
    private static boolean isGood(int returns, int limit, int... pairs) {
        CodeJudge x = new CodeJudge();
        x.method(0, 2, 2, returns, 4, limit);
        Check.code(x, 0, pairs);
        return x.good(0);
    }

    private static void refusals() {
        CodeJudge x = new CodeJudge();
        x.method(0, 1, 0, 0, 2, 3);
        Check.code(x, 0, Check.RETURN, 0, Check.RETURN, 0);
        x.method(1, 0, 0, 0, 1, 3);
        Check.code(x, 1, Check.ADD, 0);
        for (int m : new int[] {-1, 2, 8, Integer.MIN_VALUE, Integer.MAX_VALUE}) {
            Check.fails("good " + m, Check.NO_SUCH, () -> x.good(m));
            Check.fails("height " + m, Check.NO_SUCH, () -> x.height(m, 0));
            Check.fails("type " + m, Check.NO_SUCH, () -> x.type(m, 0, 0, 0));
        }
        for (int place : new int[] {-1, 2, 120, Integer.MIN_VALUE, Integer.MAX_VALUE}) {
            Check.fails("height at " + place, Check.NO_SUCH, () -> x.height(0, place));
            Check.fails("type at " + place, Check.NO_SUCH, () -> x.type(0, place, 0, 0));
        }
        Check.fails("kind 2", Check.NO_SUCH, () -> x.type(0, 0, 2, 0));
        Check.fails("kind -1", Check.NO_SUCH, () -> x.type(0, 0, -1, 0));
        Check.fails("stack -1", Check.NO_SUCH, () -> x.type(0, 0, 0, -1));
        Check.fails("local -1", Check.NO_SUCH, () -> x.type(0, 0, 1, -1));
        Check.fails("local 2 of 2", Check.NO_SUCH, () -> x.type(0, 0, 1, 2));
        Check.fails("local 2 where no way comes", Check.NO_SUCH, () -> x.type(0, 1, 1, 2));
        Check.due("stack far up", -1, x.type(0, 0, 0, Integer.MAX_VALUE));
        Check.fails("height, not good", Check.STATE, () -> x.height(1, 0));
        Check.fails("stack, not good", Check.STATE, () -> x.type(1, 0, 0, 99));
        Check.fails("local, not good", Check.STATE, () -> x.type(1, 0, 1, 0));
        Check.fails("place before goodness", Check.NO_SUCH, () -> x.height(1, 1));
        Check.fails("local before goodness", Check.NO_SUCH, () -> x.type(1, 0, 1, 1));
        Check.fails("kind before goodness", Check.NO_SUCH, () -> x.type(1, 0, 2, 0));
        Check.fails("below 0 before goodness", Check.NO_SUCH, () -> x.type(1, 0, 0, -1));
    }

    /** Every order with fixed types, tried with every stack of up to four ints and arrays. */
    private static void ordersTakeTheirTypes() {
        Object[][] orders = {
            {Check.CONSTANT, ""}, {Check.LOAD, ""}, {Check.STORE, "i"}, {Check.LOAD_ARRAY, ""},
            {Check.STORE_ARRAY, "a"}, {Check.ADD, "ii"}, {Check.SUBTRACT, "ii"},
            {Check.MULTIPLY, "ii"}, {Check.DIVIDE, "ii"}, {Check.REST, "ii"}, {Check.NEW, "i"},
            {Check.LENGTH, "a"}, {Check.GET, "ai"}, {Check.PUT, "aii"}, {Check.GO, ""},
            {Check.IF_ZERO, "i"}, {Check.IF_LESS, "ii"}, {Check.IF_SAME, "ii"},
            {Check.NOTHING, ""}, {Check.IF_NOTHING, "a"}, {Check.OUT, "i"},
        };
        for (Object[] order : orders) {
            for (int high = 0; high <= 4; high++) {
                for (int arrays = 0; arrays < 1 << high; arrays++) {
                    String stack = stack(high, arrays);
                    Check.due("order " + order[0] + " with " + stack,
                            stack.endsWith((String) order[1]),
                            canFollow(stack, (Integer) order[0]));
                }
            }
        }
    }

    private static String stack(int high, int arrays) {
        StringBuilder text = new StringBuilder();
        for (int k = 0; k < high; k++) {
            text.append((arrays >> k & 1) != 0 ? 'a' : 'i');
        }
        return text.toString();
    }

    private static boolean canFollow(String stack, int order) {
        CodeJudge x = new CodeJudge();
        x.method(0, 2, 2, 0, 2, 15);
        for (char c : stack.toCharArray()) {
            x.add(0, c == 'a' ? Check.NOTHING : Check.CONSTANT, 0);
        }
        boolean leaps = order >= Check.GO && order <= Check.IF_SAME || order == Check.IF_NOTHING;
        int v = leaps ? stack.length() + 1 : order == Check.LOAD_ARRAY ? 1 : 0;
        x.add(0, order, v);
        // Going round at one place is a way without an end, whatever the stack.
        x.add(0, Check.GO, stack.length() + 1);
        return x.good(0);
    }

    private static void ordersPutTheirTypes() {
        CodeJudge x = new CodeJudge();
        x.method(0, 2, 2, 0, 3, 5);
        Check.code(x, 0, Check.CONSTANT, 3, Check.NEW, 0, Check.DOUBLE, 0, Check.LENGTH, 0,
                Check.TURN, 0, Check.CONSTANT, 0, Check.GET, 0, Check.ADD, 0, Check.LOAD_ARRAY, 1,
                Check.TURN, 0, Check.LOAD, 0, Check.PUT, 0, Check.NOTHING, 0, Check.STORE_ARRAY, 2,
                Check.RETURN, 0);
        String[] due = {"", "i", "a", "aa", "ai", "ia", "iai", "ii", "i", "ia", "ai", "aii", "",
            "a", ""};
        Check.due("good", true, x.good(0));
        for (int place = 0; place < due.length; place++) {
            needStack(x, place, due[place]);
        }
    }

    private static void needStack(CodeJudge x, int place, String due) {
        Check.due("height at " + place, due.length(), x.height(0, place));
        for (int k = 0; k < due.length(); k++) {
            Check.due("type at " + place + " of " + k, due.charAt(k) == 'a' ? ARRAY : INT,
                    x.type(0, place, 0, k));
        }
        Check.due("above the stack at " + place, -1, x.type(0, place, 0, due.length()));
    }

    private static void anyIsTaken() {
        Check.due("DOUBLE of nothing", false, isGood(0, 5, Check.DOUBLE, 0, Check.GO, 1));
        Check.due("DROP of nothing", false, isGood(0, 5, Check.DROP, 0, Check.GO, 1));
        Check.due("TURN of nothing", false, isGood(0, 5, Check.TURN, 0, Check.GO, 1));
        Check.due("TURN of one", false,
                isGood(0, 5, Check.CONSTANT, 0, Check.TURN, 0, Check.GO, 2));
        Check.due("DROP of either", true,
                isGood(0, 5, Check.CONSTANT, 0, Check.NOTHING, 0, Check.DROP, 0, Check.DROP, 0,
                        Check.RETURN, 0));
        for (int arrays = 0; arrays < 8; arrays++) {
            CodeJudge x = new CodeJudge();
            x.method(0, 0, 0, 0, 0, 4);
            for (int k = 0; k < 3; k++) {
                x.add(0, (arrays >> k & 1) != 0 ? Check.NOTHING : Check.CONSTANT, 0);
            }
            Check.code(x, 0, Check.TURN, 0, Check.DOUBLE, 0, Check.GO, 5);
            String s = stack(3, arrays);
            needStack(x, 3, s);
            String turned = "" + s.charAt(0) + s.charAt(2) + s.charAt(1);
            needStack(x, 4, turned);
            needStack(x, 5, turned + s.charAt(1));
        }
    }

    private static void limits() {
        for (int limit = 0; limit <= 15; limit++) {
            for (int high = 0; high <= 15; high++) {
                CodeJudge x = new CodeJudge();
                x.method(0, 0, 0, 0, 0, limit);
                for (int k = 0; k < high; k++) {
                    x.add(0, k % 3 == 0 ? Check.NOTHING : Check.CONSTANT, 0);
                }
                x.add(0, Check.GO, high);
                Check.due("height " + high + ", limit " + limit, high <= limit, x.good(0));
            }
        }
        Check.due("DOUBLE at the limit", false,
                isGood(0, 1, Check.CONSTANT, 0, Check.DOUBLE, 0, Check.GO, 2));
        Check.due("LOAD at the limit", false,
                isGood(0, 1, Check.LOAD, 0, Check.LOAD_ARRAY, 1, Check.GO, 2));
        Check.due("taking and putting at the limit", true,
                isGood(0, 1, Check.CONSTANT, 0, Check.NEW, 0, Check.LENGTH, 0, Check.OUT, 0,
                        Check.RETURN, 0));
        CodeJudge x = new CodeJudge();
        x.method(0, 0, 0, 0, 0, 0);
        x.method(1, 0, 0, 1, 0, 1);
        Check.code(x, 0, Check.CALL, 1, Check.GO, 1);
        Check.code(x, 1, Check.CONSTANT, 0, Check.RETURN, 0);
        Check.due("a call's answer above the limit", false, x.good(0));
        x.method(1, 0, 0, 0, 0, 15);
        Check.due("a call without an answer", true, x.good(0));
        x.method(0, 0, 0, 0, 0, 15);
        for (int k = 0; k < 15; k++) {
            x.add(0, Check.NOTHING, 0);
        }
        Check.code(x, 0, Check.IF_NOTHING, 16, Check.GO, 16);
        Check.due("fifteen arrays", true, x.good(0));
        Check.due("the highest of them", ARRAY, x.type(0, 15, 0, 14));
    }

    private static void numbersMustBeThere() {
        int[] wrongLocals = {-1, 4, 32, 33, Integer.MIN_VALUE, Integer.MAX_VALUE};
        for (int v : wrongLocals) {
            Check.due("LOAD " + v, false, isGood(0, 9, Check.LOAD, v, Check.GO, 1));
            Check.due("LOAD_ARRAY " + v, false, isGood(0, 9, Check.LOAD_ARRAY, v, Check.GO, 1));
            Check.due("STORE " + v, false,
                    isGood(0, 9, Check.CONSTANT, 0, Check.STORE, v, Check.GO, 2));
            Check.due("STORE_ARRAY " + v, false,
                    isGood(0, 9, Check.NOTHING, 0, Check.STORE_ARRAY, v, Check.GO, 2));
        }
        for (int v : new int[] {-1, 4, 5, Integer.MIN_VALUE, Integer.MAX_VALUE}) {
            Check.due("GO " + v, false, isGood(0, 9, Check.GO, v, Check.GO, 1, Check.GO, 2,
                    Check.GO, 3));
            Check.due("IF ZERO " + v, false, isGood(0, 9, Check.CONSTANT, 0, Check.IF_ZERO, v,
                    Check.GO, 2, Check.GO, 3));
            Check.due("IF LESS " + v, false, isGood(0, 9, Check.CONSTANT, 0, Check.DOUBLE, 0,
                    Check.IF_LESS, v, Check.GO, 3));
            Check.due("IF SAME " + v, false, isGood(0, 9, Check.CONSTANT, 0, Check.DOUBLE, 0,
                    Check.IF_SAME, v, Check.GO, 3));
            Check.due("IF NOTHING " + v, false, isGood(0, 9, Check.NOTHING, 0, Check.IF_NOTHING, v,
                    Check.GO, 2, Check.GO, 3));
        }
        for (int v : new int[] {-1, 1, 7, 8, 32, Integer.MIN_VALUE, Integer.MAX_VALUE}) {
            Check.due("CALL " + v, false, isGood(0, 9, Check.CALL, v, Check.GO, 1));
        }
        Check.due("other orders do not look at v", true, isGood(0, 9, Check.CONSTANT, -999,
                Check.DOUBLE, 999, Check.ADD, -1, Check.OUT, 120, Check.NOTHING, 8, Check.DROP, 99,
                Check.RETURN, -1));
    }

    private static void endsOfCode() {
        Check.due("no code", false, isGood(0, 9));
        Check.due("running out at the end", false, isGood(0, 9, Check.CONSTANT, 0));
        Check.due("an IF as the last", false, isGood(0, 9, Check.CONSTANT, 0, Check.IF_ZERO, 0));
        Check.due("a GO as the last", true, isGood(0, 9, Check.CONSTANT, 0, Check.DROP, 0,
                Check.GO, 0));
        Check.due("GO to itself", true, isGood(0, 0, Check.GO, 0));
    }

    private static void returns() {
        int[][] before = {{}, {Check.CONSTANT, 0}, {Check.NOTHING, 0},
            {Check.CONSTANT, 0, Check.CONSTANT, 0}, {Check.NOTHING, 0, Check.CONSTANT, 0},
            {Check.CONSTANT, 0, Check.NOTHING, 0}, {Check.NOTHING, 0, Check.NOTHING, 0}};
        for (int returns = 0; returns <= 2; returns++) {
            for (int i = 0; i < before.length; i++) {
                CodeJudge x = new CodeJudge();
                x.method(0, 0, 0, returns, 0, 5);
                Check.code(x, 0, before[i]);
                x.add(0, Check.RETURN, 0);
                Check.due("returns " + returns + ", stack " + i, i == returns, x.good(0));
            }
        }
    }

    private static void calls() {
        CodeJudge x = new CodeJudge();
        x.method(0, 0, 0, 0, 0, 6);
        x.method(6, 3, 2, 2, 3, 0);
        Check.code(x, 0, Check.NOTHING, 0, Check.CONSTANT, 0, Check.NOTHING, 0, Check.CONSTANT, 0,
                Check.CALL, 6, Check.GO, 5);
        Check.due("a call of a method that is not good", true, x.good(0));
        Check.due("which it is not", false, x.good(6));
        needStack(x, 4, "aiai");
        needStack(x, 5, "aa");
        x.method(6, 3, 6, 2, 3, 0);
        Check.due("other arrays among its parameters", false, x.good(0));
        x.method(6, 3, 3, 2, 3, 0);
        Check.due("arrays the other way round", false, x.good(0));
        x.method(6, 4, 5, 1, 4, 0);
        Check.due("four parameters", true, x.good(0));
        needStack(x, 5, "i");
        x.method(6, 4, 10, 1, 4, 0);
        Check.due("four other parameters", false, x.good(0));
        x.method(6, 0, 0, 0, 0, 0);
        needStack(x, 5, "aiai");
        x.drop(6);
        Check.due("no method 6", false, x.good(0));
        x.method(1, 1, 0, 0, 1, 1);
        Check.code(x, 1, Check.CALL, 1, Check.RETURN, 0);
        Check.due("its own parameter is missing", false, x.good(1));
        x.method(1, 0, 0, 0, 0, 0);
        Check.code(x, 1, Check.CALL, 1, Check.RETURN, 0);
        Check.due("a method that calls itself", true, x.good(1));
    }

    private static void waysMeet() {
        Check.due("stacks of different heights", false, isGood(0, 9, Check.LOAD, 0,
                Check.IF_ZERO, 3, Check.CONSTANT, 0, Check.GO, 3));
        Check.due("an int and an array", false, isGood(0, 9, Check.LOAD, 0, Check.IF_ZERO, 4,
                Check.CONSTANT, 0, Check.GO, 5, Check.NOTHING, 0, Check.GO, 5));
        Check.due("ints both", true, isGood(0, 9, Check.LOAD, 0, Check.IF_ZERO, 4,
                Check.CONSTANT, 0, Check.GO, 5, Check.CONSTANT, 0, Check.GO, 5));
        Check.due("a loop that grows the stack", false, isGood(0, 9, Check.CONSTANT, 0,
                Check.GO, 0));
        Check.due("coming to place 0 with a stack", false, isGood(0, 9, Check.CONSTANT, 0,
                Check.CONSTANT, 0, Check.IF_ZERO, 0, Check.GO, 3));
        Check.due("an IF to the next place", true, isGood(0, 9, Check.CONSTANT, 0,
                Check.IF_ZERO, 2, Check.RETURN, 0));
        Check.due("a different stack, below the top", false, isGood(0, 9, Check.LOAD, 0,
                Check.IF_ZERO, 5, Check.CONSTANT, 0, Check.CONSTANT, 0, Check.GO, 7,
                Check.NOTHING, 0, Check.CONSTANT, 0, Check.DROP, 0, Check.DROP, 0,
                Check.RETURN, 0));
        Check.due("both ways count, though one can never be gone", false, isGood(0, 9,
                Check.CONSTANT, 1, Check.IF_ZERO, 3, Check.RETURN, 0, Check.ADD, 0));
    }

    private static void localsOnWays() {
        Check.due("nothing in a local", false, isGood(0, 9, Check.LOAD, 2, Check.GO, 1));
        Check.due("no array in a local", false, isGood(0, 9, Check.LOAD_ARRAY, 2, Check.GO, 1));
        Check.due("an array as an int", false, isGood(0, 9, Check.LOAD, 1, Check.GO, 1));
        Check.due("an int as an array", false, isGood(0, 9, Check.LOAD_ARRAY, 0, Check.GO, 1));
        Check.due("stored, loaded", true, isGood(0, 9, Check.CONSTANT, 0, Check.STORE, 2,
                Check.LOAD, 2, Check.GO, 3));
        Check.due("a parameter becomes an array", true, isGood(0, 9, Check.NOTHING, 0,
                Check.STORE_ARRAY, 0, Check.LOAD_ARRAY, 0, Check.GO, 3));
        Check.due("and is no int any more", false, isGood(0, 9, Check.NOTHING, 0,
                Check.STORE_ARRAY, 0, Check.LOAD, 0, Check.GO, 3));
        Check.due("and the other way", false, isGood(0, 9, Check.CONSTANT, 0,
                Check.STORE, 1, Check.LOAD_ARRAY, 1, Check.GO, 3));
        // The second time round local 0 is an array.
        Check.due("a loop spoils a local", false, isGood(0, 9, Check.LOAD, 0, Check.DROP, 0,
                Check.NOTHING, 0, Check.STORE_ARRAY, 0, Check.GO, 0));
        Check.due("a loop that mends it", true, isGood(0, 9, Check.LOAD, 0, Check.DROP, 0,
                Check.NOTHING, 0, Check.STORE_ARRAY, 0, Check.CONSTANT, 0, Check.STORE, 0,
                Check.GO, 0));
        Check.due("a local stored on one way only", false, isGood(0, 9, Check.LOAD, 0,
                Check.IF_ZERO, 4, Check.CONSTANT, 0, Check.STORE, 3, Check.LOAD, 3, Check.GO, 5));
        Check.due("the tenth local", true, tenLocals());
    }

    private static boolean tenLocals() {
        CodeJudge x = new CodeJudge();
        x.method(0, 0, 0, 0, 10, 9);
        Check.code(x, 0, Check.CONSTANT, 0, Check.STORE, 9, Check.LOAD, 9, Check.GO, 3);
        return x.good(0) && x.type(0, 2, 1, 9) == INT && x.type(0, 1, 1, 9) == 0
                && x.type(0, 2, 1, 8) == 0;
    }

    private static void deadCode() {
        CodeJudge x = new CodeJudge();
        x.method(0, 1, 0, 0, 1, 1);
        Check.code(x, 0, Check.GO, 4, Check.ADD, 0, Check.LOAD, 99, Check.CALL, 77,
                Check.RETURN, 0, Check.PUT, 0);
        Check.due("what no way comes to may be anything", true, x.good(0));
        for (int place : new int[] {1, 2, 3, 5}) {
            Check.due("height where no way comes", -1, x.height(0, place));
            Check.due("stack where no way comes", -1, x.type(0, place, 0, 0));
            Check.due("local where no way comes", -1, x.type(0, place, 1, 0));
        }
        Check.due("where one comes", 0, x.height(0, 4));
        Check.due("its local", INT, x.type(0, 4, 1, 0));
    }

    /** Locals that are ints, arrays, neither, or different things on the ways to one place. */
    private static void shapes() {
        CodeJudge x = new CodeJudge();
        x.method(0, 2, 2, 0, 6, 2);
        Check.code(x, 0, Check.LOAD, 0, Check.IF_ZERO, 9, Check.CONSTANT, 0, Check.STORE, 2,
                Check.NOTHING, 0, Check.STORE_ARRAY, 3, Check.CONSTANT, 0, Check.STORE, 4,
                Check.GO, 15, Check.CONSTANT, 0, Check.STORE, 2, Check.NOTHING, 0,
                Check.STORE_ARRAY, 3, Check.NOTHING, 0, Check.STORE_ARRAY, 4, Check.RETURN, 0);
        int[] atStart = {1, 2, 0, 0, 0, 0};
        int[] one = {1, 2, 1, 2, 1, 0};
        int[] meeting = {1, 2, 1, 2, 0, 0};
        for (int k = 0; k < 6; k++) {
            Check.due("local " + k + " at first", atStart[k], x.type(0, 0, 1, k));
            Check.due("local " + k + " on one way", one[k], x.type(0, 8, 1, k));
            Check.due("local " + k + " where two meet", meeting[k], x.type(0, 15, 1, k));
        }
        Check.due("good", true, x.good(0));
        x.patch(0, 1, 15);
        Check.due("local 2 behind a shorter way", 0, x.type(0, 15, 1, 2));
        Check.due("good as well", true, x.good(0));
    }

    /**
     * Ten locals are ints at first, and each turn of a long loop that goes backwards through the
     * code makes one more of them neither.
     */
    private static void longChains() {
        CodeJudge x = new CodeJudge();
        x.method(0, 0, 0, 0, 10, 1);
        for (int k = 0; k < 10; k++) {
            Check.code(x, 0, Check.CONSTANT, 0, Check.STORE, k);
        }
        int loop = 20;
        Check.code(x, 0, Check.GO, loop + 1, Check.NOTHING, 0, Check.STORE_ARRAY, 0);
        for (int k = 1; k < 10; k++) {
            int here = loop + 3 + (k - 1) * 4;
            Check.code(x, 0, Check.CONSTANT, 0, Check.IF_ZERO, loop + 1, Check.NOTHING, 0,
                    Check.STORE_ARRAY, k);
            Check.due("added", here + 4, x.count(1));
        }
        int back = x.count(1);
        for (int place = back; place < 119; place++) {
            x.add(0, Check.GO, place + 1);
        }
        x.add(0, Check.GO, loop + 1);
        Check.due("good", true, x.good(0));
        for (int k = 0; k < 10; k++) {
            Check.due("local " + k + " ahead of the loop", INT, x.type(0, loop, 1, k));
            Check.due("local " + k + " in the loop", 0, x.type(0, loop + 1, 1, k));
            Check.due("local " + k + " far behind", 2, x.type(0, 119, 1, k));
        }
    }
}
