/** Promises 9 to 14: start, run, state, value, cell and output. */
public final class MachineTest {
    private static final int MIN = Integer.MIN_VALUE;
    private static final int MAX = Integer.MAX_VALUE;

    public static void main(String[] args) {
        startRefuses();
        startNeedsGoodCalls();
        startGivesParameters();
        startAnew();
        runRefuses();
        runGoesByParts();
        arithmetic();
        ifs();
        moves();
        troubles();
        troubleDoesNothing();
        mostCells();
        mostArrays();
        mostFrames();
        callsAndReturns();
        returned();
        states();
        values();
        cells();
        outputs();
        Check.end("MachineTest");
    }

    private static void startRefuses() {
        CodeJudge x = new CodeJudge();
        x.method(0, 4, 5, 0, 4, 0);
        x.method(1, 1, 1, 0, 1, 0);
        Check.code(x, 0, Check.RETURN, 0);
        for (int m : new int[] {-1, 2, 8, MIN, MAX}) {
            Check.fails("start " + m, Check.NO_SUCH, () -> x.start(m, -1, 0, 0, 0));
        }
        for (int cells : new int[] {-1, 401, MIN, MAX}) {
            Check.fails("a " + cells, Check.ARGUMENT, () -> x.start(0, cells, 0, 0, 0));
            Check.fails("c " + cells, Check.ARGUMENT, () -> x.start(0, 0, 0, cells, 0));
            Check.fails("cells before goodness", Check.ARGUMENT, () -> x.start(1, cells, 0, 0, 0));
            x.start(0, 0, cells, 400, cells);
            Check.due("an int may be anything", cells, x.value(1, 1));
            Check.due("the last one too", cells, x.value(1, 3));
        }
        Check.fails("not good", Check.STATE, () -> x.start(1, 0, MAX, MAX, MAX));
        Check.due("the run before is still there", 0, x.state(0));
    }

    private static void startNeedsGoodCalls() {
        CodeJudge x = new CodeJudge();
        for (int m = 0; m <= 7; m++) {
            x.method(m, 0, 0, 0, 0, 0);
            Check.code(x, m, Check.CALL, (m + 1) % 8, Check.RETURN, 0);
        }
        x.start(3, 0, 0, 0, 0);
        Check.due("a ring of eight good methods", 3, x.state(3));
        x.method(2, 0, 0, 0, 0, 0);
        for (int m = 0; m <= 7; m++) {
            int each = m;
            Check.fails("2 is not good, from " + m, Check.STATE, () -> x.start(each, 0, 0, 0, 0));
        }
        Check.due("though the others are", 7, x.count(2));
        Check.code(x, 2, Check.RETURN, 0);
        x.start(7, 0, 0, 0, 0);
        x.method(3, 0, 0, 0, 0, 0);
        x.start(7, 0, 0, 0, 0);
        Check.due("2 does not call 3 any more", 7, x.state(3));
        deadCallsDoNotCount();
    }

    private static void deadCallsDoNotCount() {
        CodeJudge x = new CodeJudge();
        x.method(0, 0, 0, 0, 0, 1);
        x.method(1, 0, 0, 0, 0, 0);
        Check.code(x, 0, Check.GO, 2, Check.CALL, 1, Check.RETURN, 0);
        x.start(0, 0, 0, 0, 0);
        Check.due("no way comes to the call", 1, x.run(1));
        x.method(0, 0, 0, 0, 0, 1);
        Check.code(x, 0, Check.CONSTANT, 0, Check.IF_ZERO, 3, Check.CALL, 1, Check.RETURN, 0);
        Check.due("the method is good", true, x.good(0));
        Check.fails("a way that is never gone", Check.STATE, () -> x.start(0, 0, 0, 0, 0));
    }

    private static void startGivesParameters() {
        CodeJudge x = new CodeJudge();
        x.method(0, 4, 10, 0, 6, 0);
        Check.code(x, 0, Check.RETURN, 0);
        x.start(0, -5, 400, MAX, 0);
        int[] due = {-5, 0, MAX, 1, 0, 0};
        for (int k = 0; k < due.length; k++) {
            Check.due("local " + k, due[k], x.value(1, k));
        }
        Check.due("arrays", 2, x.state(6));
        Check.due("cells", 400, x.state(7));
        Check.due("the first one's", 400, x.cell(0, -1));
        Check.due("the second one's", 0, x.cell(1, -1));
        x.method(0, 4, 15, 0, 4, 0);
        Check.code(x, 0, Check.RETURN, 0);
        x.start(0, 400, 400, 400, 400);
        Check.due("four arrays", 1600, x.state(7));
        x.method(0, 0, 0, 0, 1, 0);
        Check.code(x, 0, Check.RETURN, 0);
        x.start(0, 9, 9, 9, 9);
        Check.due("what is no parameter is not given", 0, x.value(1, 0));
        Check.due("no arrays", 0, x.state(6));
    }

    private static void startAnew() {
        CodeJudge x = new CodeJudge();
        x.method(0, 1, 1, 1, 3, 4);
        Check.code(x, 0, Check.LOAD_ARRAY, 0, Check.CONSTANT, 1, Check.CONSTANT, 77, Check.PUT, 0,
                Check.CONSTANT, 5, Check.DOUBLE, 0, Check.STORE, 2, Check.OUT, 0,
                Check.CONSTANT, 6, Check.RETURN, 0);
        x.start(0, 2, 0, 0, 0);
        Check.due("first run", 10, x.run(100));
        Check.due("its cell", 77, x.cell(0, 1));
        x.start(0, 3, 0, 0, 0);
        int[] due = {0, 0, 1, 0, 0, 0, 1, 3, 0};
        for (int what = 0; what < due.length; what++) {
            Check.due("state " + what + " anew", due[what], x.state(what));
        }
        for (int k = 0; k < 3; k++) {
            Check.due("cell anew", 0, x.cell(0, k));
        }
        Check.due("local anew", 0, x.value(1, 2));
        Check.fails("stack anew", Check.NO_SUCH, () -> x.value(0, 0));
        Check.fails("output anew", Check.NO_SUCH, () -> x.output(0));
    }

    private static void runRefuses() {
        CodeJudge x = new CodeJudge();
        for (int n : new int[] {-1, 2001, MIN, MAX}) {
            Check.fails("run " + n + " without a run", Check.ARGUMENT, () -> x.run(n));
        }
        Check.fails("no run", Check.STATE, () -> x.run(2000));
        x.method(0, 0, 0, 0, 0, 0);
        Check.code(x, 0, Check.GO, 0);
        x.start(0, 0, 0, 0, 0);
        for (int n : new int[] {-1, 2001, MIN, MAX}) {
            Check.fails("run " + n, Check.ARGUMENT, () -> x.run(n));
        }
        Check.due("no steps yet", 0, x.state(1));
    }

    private static void runGoesByParts() {
        CodeJudge x = new CodeJudge();
        x.method(0, 0, 0, 0, 0, 1);
        Check.code(x, 0, Check.CONSTANT, 1, Check.OUT, 0, Check.GO, 0);
        x.start(0, 0, 0, 0, 0);
        Check.due("none", 0, x.run(0));
        int steps = 0;
        for (int n : new int[] {1, 2, 5, 2000, 1999, 2000}) {
            Check.due("run", n, x.run(n));
            steps += n;
            Check.due("steps", steps, x.state(1));
            Check.due("place", steps % 3, x.state(4));
            Check.due("it runs", 0, x.state(0));
        }
        x.method(0, 0, 0, 0, 0, 1);
        Check.code(x, 0, Check.CONSTANT, 1, Check.DROP, 0, Check.RETURN, 0);
        x.start(0, 0, 0, 0, 0);
        Check.due("all but the last", 2, x.run(2));
        Check.due("runs still", 0, x.state(0));
        Check.due("the last", 1, x.run(2000));
        Check.due("ended", 1, x.state(0));
        Check.due("nothing more", 0, x.run(2000));
        Check.due("three steps", 3, x.state(1));
    }

    /** What an order answers for two ints, or minus the trouble. */
    private static long reckoned(int order, int a, int b) {
        CodeJudge x = new CodeJudge();
        x.method(0, 2, 0, 1, 2, 2);
        Check.code(x, 0, Check.LOAD, 0, Check.LOAD, 1, order, 0, Check.RETURN, 0);
        x.start(0, a, b, 0, 0);
        x.run(4);
        return x.state(0) == 1 ? x.state(5) : Long.MIN_VALUE + x.state(0);
    }

    private static void arithmetic() {
        int[] some = {0, 1, -1, 2, -2, 3, 7, -7, 46341, 65536, MIN, MAX, MIN + 1};
        for (int a : some) {
            for (int b : some) {
                String with = " with " + a + ", " + b;
                Check.due("ADD" + with, (int) ((long) a + b), reckoned(Check.ADD, a, b));
                Check.due("SUBTRACT" + with, (int) ((long) a - b), reckoned(Check.SUBTRACT, a, b));
                Check.due("MULTIPLY" + with, (int) ((long) a * b), reckoned(Check.MULTIPLY, a, b));
                Check.due("DIVIDE" + with,
                        b == 0 ? Long.MIN_VALUE + 2 : (int) ((long) a / b),
                        reckoned(Check.DIVIDE, a, b));
                Check.due("REST" + with,
                        b == 0 ? Long.MIN_VALUE + 2 : (int) ((long) a % b),
                        reckoned(Check.REST, a, b));
            }
        }
        Check.due("truncated", -3, reckoned(Check.DIVIDE, -7, 2));
        Check.due("its rest", -1, reckoned(Check.REST, -7, 2));
    }

    private static boolean goes(int order, int a, int b) {
        CodeJudge x = new CodeJudge();
        x.method(0, 2, 0, 1, 2, 2);
        Check.code(x, 0, Check.LOAD, 0, Check.LOAD, 1, order, 6, Check.CONSTANT, 10,
                Check.RETURN, 0, Check.GO, 5, Check.CONSTANT, 20, Check.RETURN, 0);
        x.start(0, a, b, 0, 0);
        Check.due("steps", 5, x.run(9));
        return x.state(5) == 20;
    }

    private static void ifs() {
        int[] some = {0, 1, -1, MIN, MAX};
        for (int a : some) {
            for (int b : some) {
                Check.due("IF LESS " + a + ", " + b, a < b, goes(Check.IF_LESS, a, b));
                Check.due("IF SAME " + a + ", " + b, a == b, goes(Check.IF_SAME, a, b));
            }
            CodeJudge x = new CodeJudge();
            x.method(0, 1, 0, 0, 1, 1);
            Check.code(x, 0, Check.LOAD, 0, Check.IF_ZERO, 3, Check.RETURN, 0, Check.RETURN, 0);
            x.start(0, a, 0, 0, 0);
            x.run(2);
            Check.due("IF ZERO " + a, a == 0 ? 3 : 2, x.state(4));
            Check.fails("the stack is empty behind it", Check.NO_SUCH, () -> x.value(0, 0));
        }
        CodeJudge x = new CodeJudge();
        x.method(0, 1, 1, 0, 1, 1);
        Check.code(x, 0, Check.LOAD_ARRAY, 0, Check.IF_NOTHING, 5, Check.NOTHING, 0,
                Check.IF_NOTHING, 5, Check.RETURN, 0, Check.RETURN, 0);
        x.start(0, 0, 0, 0, 0);
        x.run(2);
        Check.due("IF NOTHING with array 0", 2, x.state(4));
        x.run(2);
        Check.due("IF NOTHING with none", 5, x.state(4));
    }

    private static void moves() {
        CodeJudge x = new CodeJudge();
        x.method(0, 0, 0, 0, 3, 4);
        Check.code(x, 0, Check.CONSTANT, MIN, Check.CONSTANT, 2, Check.TURN, 0, Check.DOUBLE, 0,
                Check.STORE, 2, Check.LOAD, 2, Check.DROP, 0, Check.DROP, 0, Check.OUT, 0,
                Check.NOTHING, 0, Check.STORE_ARRAY, 1, Check.RETURN, 0);
        x.start(0, 0, 0, 0, 0);
        int[][] due = {{MIN}, {MIN, 2}, {2, MIN}, {2, MIN, MIN}, {2, MIN}, {2, MIN, MIN},
            {2, MIN}, {2}, {}, {-1}, {}};
        for (int i = 0; i < due.length; i++) {
            Check.due("one step", 1, x.run(1));
            for (int k = 0; k < due[i].length; k++) {
                Check.due("stack " + k + " behind " + i, due[i][k], x.value(0, k));
            }
            int high = due[i].length;
            Check.fails("no more on the stack", Check.NO_SUCH, () -> x.value(0, high));
            Check.due("local 2 behind " + i, i < 4 ? 0 : MIN, x.value(1, 2));
        }
        Check.due("none in a local", -1, x.value(1, 1));
    }

    private static void trouble(int due, int steps, int... pairs) {
        CodeJudge x = new CodeJudge();
        x.method(0, 1, 1, 0, 1, 5);
        Check.code(x, 0, pairs);
        int at = pairs.length / 2 - 1;
        x.add(0, Check.GO, at + 1);
        x.start(0, 3, 0, 0, 0);
        Check.due("steps until trouble " + due, steps, x.run(2000));
        Check.due("trouble", due, x.state(0));
        Check.due("place of the trouble", at, x.state(4));
        Check.due("steps", steps, x.state(1));
        Check.due("it stays so", 0, x.run(2000));
        Check.due("the same trouble", due, x.state(0));
        Check.due("the frame is there", 1, x.state(2));
        Check.due("its method", 0, x.state(3));
        Check.due("nothing returned", 0, x.state(5));
        Check.due("its local", 0, x.value(1, 0));
    }

    private static void troubles() {
        int c = Check.CONSTANT;
        int load = Check.LOAD_ARRAY;
        trouble(2, 2, c, 1, c, 0, Check.DIVIDE, 0);
        trouble(2, 2, c, 0, c, 0, Check.REST, 0);
        trouble(3, 1, Check.NOTHING, 0, Check.LENGTH, 0);
        trouble(3, 2, Check.NOTHING, 0, c, 0, Check.GET, 0);
        trouble(3, 2, Check.NOTHING, 0, c, -1, Check.GET, 0);
        trouble(3, 3, Check.NOTHING, 0, c, 0, c, 0, Check.PUT, 0);
        trouble(3, 3, Check.NOTHING, 0, c, 9, c, 0, Check.PUT, 0);
        for (int k : new int[] {-1, 3, MIN, MAX}) {
            trouble(4, 2, load, 0, c, k, Check.GET, 0);
            trouble(4, 3, load, 0, c, k, c, 1, Check.PUT, 0);
        }
        trouble(5, 1, c, -1, Check.NEW, 0);
        trouble(5, 1, c, MIN, Check.NEW, 0);
        trouble(6, 1, c, 1998, Check.NEW, 0);
        trouble(6, 1, c, MAX, Check.NEW, 0);
    }

    private static void troubleDoesNothing() {
        CodeJudge x = new CodeJudge();
        x.method(0, 0, 0, 0, 1, 5);
        Check.code(x, 0, Check.CONSTANT, 4, Check.CONSTANT, 0, Check.DIVIDE, 0, Check.OUT, 0,
                Check.RETURN, 0);
        x.start(0, 0, 0, 0, 0);
        Check.due("exactly as far as it goes", 2, x.run(2));
        Check.due("no trouble yet", 0, x.state(0));
        Check.due("nor by no step", 0, x.run(0));
        Check.due("still none", 0, x.state(0));
        Check.due("no step", 0, x.run(1));
        Check.due("trouble now", 2, x.state(0));
        Check.due("the stack stays", 4, x.value(0, 0));
        Check.due("all of it", 0, x.value(0, 1));
        Check.due("place", 2, x.state(4));
        Check.due("nothing put out", 0, x.state(8));
    }

    private static void mostCells() {
        CodeJudge x = new CodeJudge();
        x.method(0, 4, 15, 0, 4, 1);
        Check.code(x, 0, Check.CONSTANT, 400, Check.NEW, 0, Check.DROP, 0, Check.CONSTANT, 0,
                Check.NEW, 0, Check.DROP, 0, Check.CONSTANT, 1, Check.NEW, 0, Check.DROP, 0,
                Check.RETURN, 0);
        x.start(0, 400, 400, 400, 400);
        Check.due("2000 cells, and an array of none", 7, x.run(99));
        Check.due("trouble", 6, x.state(0));
        Check.due("cells", 2000, x.state(7));
        Check.due("arrays", 6, x.state(6));
        Check.due("the fifth", 400, x.cell(4, -1));
        Check.due("the sixth", 0, x.cell(5, -1));
        Check.fails("no seventh", Check.NO_SUCH, () -> x.cell(6, -1));
        x.start(0, 400, 400, 400, 399);
        Check.due("2000 cells in all", 10, x.run(99));
        Check.due("no trouble", 1, x.state(0));
    }

    private static void mostArrays() {
        CodeJudge x = new CodeJudge();
        x.method(0, 0, 0, 0, 0, 1);
        Check.code(x, 0, Check.CONSTANT, 0, Check.NEW, 0, Check.DROP, 0, Check.GO, 0);
        x.start(0, 0, 0, 0, 0);
        Check.due("200 times, and one more", 801, x.run(2000));
        Check.due("trouble", 6, x.state(0));
        Check.due("arrays", 200, x.state(6));
        Check.due("cells", 0, x.state(7));
        Check.due("the last", 0, x.cell(199, -1));
        Check.fails("none behind", Check.NO_SUCH, () -> x.cell(200, -1));
    }

    private static void mostFrames() {
        CodeJudge x = new CodeJudge();
        x.method(0, 1, 0, 1, 1, 15);
        Check.code(x, 0, Check.LOAD, 0, Check.IF_ZERO, 8, Check.LOAD, 0, Check.DOUBLE, 0,
                Check.CONSTANT, 1, Check.SUBTRACT, 0, Check.CALL, 0, Check.GO, 10,
                Check.CONSTANT, 0, Check.DOUBLE, 0, Check.ADD, 0, Check.RETURN, 0);
        x.start(0, 49, 0, 0, 0);
        Check.due("fifty frames", 49 * 10 + 6, x.run(2000));
        Check.due("ended", 1, x.state(0));
        Check.due("the sum", 49 * 50 / 2, x.state(5));
        x.start(0, 50, 0, 0, 0);
        Check.due("a fifty-first", 50 * 7 - 1, x.run(2000));
        Check.due("trouble", 7, x.state(0));
        Check.due("frames", 50, x.state(2));
        Check.due("place", 6, x.state(4));
        Check.due("its own number", 1, x.value(1, 0));
        Check.due("what it would have given", 0, x.value(0, 1));
        Check.due("what stays below", 1, x.value(0, 0));
    }

    private static void callsAndReturns() {
        CodeJudge x = new CodeJudge();
        x.method(0, 0, 0, 0, 1, 6);
        x.method(5, 3, 2, 1, 5, 2);
        Check.code(x, 0, Check.CONSTANT, 9, Check.CONSTANT, 8, Check.CONSTANT, 4, Check.NEW, 0,
                Check.CONSTANT, 7, Check.CALL, 5, Check.SUBTRACT, 0, Check.STORE, 0,
                Check.RETURN, 0);
        Check.code(x, 5, Check.CONSTANT, 3, Check.STORE, 4, Check.LOAD, 0, Check.LOAD, 2,
                Check.SUBTRACT, 0, Check.RETURN, 0);
        x.start(0, 0, 0, 0, 0);
        x.run(6);
        Check.due("two frames", 2, x.state(2));
        Check.due("the upper method", 5, x.state(3));
        Check.due("its place", 0, x.state(4));
        int[] due = {8, 0, 7, 0, 0};
        for (int k = 0; k < due.length; k++) {
            Check.due("its local " + k, due[k], x.value(1, k));
        }
        Check.fails("it has five", Check.NO_SUCH, () -> x.value(1, 5));
        Check.fails("its own stack is empty", Check.NO_SUCH, () -> x.value(0, 0));
        x.run(6);
        Check.due("one frame again", 1, x.state(2));
        Check.due("behind the call", 6, x.state(4));
        Check.due("what was below stays", 9, x.value(0, 0));
        Check.due("what it returned", 1, x.value(0, 1));
        Check.fails("nothing else", Check.NO_SUCH, () -> x.value(0, 2));
        Check.due("locals of its own", 0, x.value(1, 0));
        Check.fails("only one", Check.NO_SUCH, () -> x.value(1, 1));
        Check.due("to the end", 3, x.run(2000));
        Check.due("nothing is returned", 0, x.state(5));
    }

    private static void returned() {
        CodeJudge x = new CodeJudge();
        x.method(0, 2, 2, 2, 2, 1);
        Check.code(x, 0, Check.LOAD, 0, Check.IF_ZERO, 4, Check.LOAD_ARRAY, 1, Check.RETURN, 0,
                Check.NOTHING, 0, Check.RETURN, 0);
        x.start(0, 1, 5, 0, 0);
        x.run(3);
        Check.due("not ended", 0, x.state(5));
        x.run(1);
        Check.due("the array's number", 0, x.state(5));
        Check.due("its cells can still be seen", 5, x.cell(0, -1));
        x.start(0, 0, 5, 0, 0);
        x.run(4);
        Check.due("none", -1, x.state(5));
        x.method(0, 0, 0, 2, 0, 1);
        Check.code(x, 0, Check.CONSTANT, 1, Check.NEW, 0, Check.DROP, 0, Check.CONSTANT, 1,
                Check.NEW, 0, Check.RETURN, 0);
        x.start(0, 0, 0, 0, 0);
        x.run(5);
        Check.due("not ended yet", 0, x.state(5));
        x.run(1);
        Check.due("the second array", 1, x.state(5));
    }

    private static void states() {
        CodeJudge x = new CodeJudge();
        for (int what : new int[] {-1, 9, MIN, MAX}) {
            Check.fails("state " + what, Check.ARGUMENT, () -> x.state(what));
        }
        Check.fails("no run", Check.STATE, () -> x.state(8));
        x.method(6, 1, 1, 0, 1, 1);
        Check.code(x, 6, Check.CONSTANT, 5, Check.OUT, 0, Check.CONSTANT, 2, Check.NEW, 0,
                Check.DROP, 0, Check.RETURN, 0);
        x.start(6, 3, 0, 0, 0);
        int[][] due = {
            {0, 0, 1, 6, 0, 0, 1, 3, 0}, {0, 1, 1, 6, 1, 0, 1, 3, 0}, {0, 2, 1, 6, 2, 0, 1, 3, 1},
            {0, 3, 1, 6, 3, 0, 1, 3, 1}, {0, 4, 1, 6, 4, 0, 2, 5, 1}, {0, 5, 1, 6, 5, 0, 2, 5, 1},
            {1, 6, 0, -1, -1, 0, 2, 5, 1}, {1, 6, 0, -1, -1, 0, 2, 5, 1},
        };
        for (int i = 0; i < due.length; i++) {
            for (int what = 0; what <= 8; what++) {
                Check.due("state " + what + " behind " + i, due[i][what], x.state(what));
            }
            x.run(1);
        }
        for (int what : new int[] {-1, 9, MIN, MAX}) {
            Check.fails("state " + what, Check.ARGUMENT, () -> x.state(what));
        }
    }

    private static void values() {
        CodeJudge x = new CodeJudge();
        x.method(0, 1, 0, 0, 3, 2);
        Check.code(x, 0, Check.CONSTANT, 5, Check.DROP, 0, Check.RETURN, 0);
        x.start(0, 4, 0, 0, 0);
        x.run(1);
        Check.due("stack", 5, x.value(0, 0));
        Check.due("parameter", 4, x.value(1, 0));
        Check.due("other local", 0, x.value(1, 2));
        for (int k : new int[] {-1, 1, 2, MIN, MAX}) {
            Check.fails("stack " + k, Check.NO_SUCH, () -> x.value(0, k));
        }
        for (int k : new int[] {-1, 3, 10, MIN, MAX}) {
            Check.fails("local " + k, Check.NO_SUCH, () -> x.value(1, k));
        }
        for (int kind : new int[] {-1, 2, MIN, MAX}) {
            Check.fails("kind " + kind, Check.NO_SUCH, () -> x.value(kind, 0));
        }
        x.run(2);
        Check.fails("stack, ended", Check.NO_SUCH, () -> x.value(0, 0));
        Check.fails("local, ended", Check.NO_SUCH, () -> x.value(1, 0));
    }

    private static void cells() {
        CodeJudge x = new CodeJudge();
        x.method(0, 2, 3, 0, 2, 3);
        Check.code(x, 0, Check.LOAD_ARRAY, 1, Check.CONSTANT, 0, Check.CONSTANT, 11, Check.PUT, 0,
                Check.LOAD_ARRAY, 0, Check.CONSTANT, 1, Check.CONSTANT, MIN, Check.PUT, 0,
                Check.LOAD_ARRAY, 0, Check.CONSTANT, 1, Check.GET, 0, Check.OUT, 0,
                Check.LOAD_ARRAY, 1, Check.LENGTH, 0, Check.OUT, 0, Check.RETURN, 0);
        x.start(0, 2, 3, 0, 0);
        Check.due("put and got", 16, x.run(99));
        int[][] due = {{2, 0, MIN}, {3, 11, 0, 0}};
        for (int array = 0; array < 2; array++) {
            for (int k = -1; k < due[array].length - 1; k++) {
                Check.due("cell " + k + " of " + array, due[array][k + 1], x.cell(array, k));
            }
        }
        Check.due("GET", MIN, x.output(0));
        Check.due("LENGTH", 3, x.output(1));
        for (int array : new int[] {-1, 2, 200, MIN, MAX}) {
            Check.fails("array " + array, Check.NO_SUCH, () -> x.cell(array, -1));
            Check.fails("array " + array, Check.NO_SUCH, () -> x.cell(array, 0));
        }
        for (int k : new int[] {-2, 2, 2000, MIN, MAX}) {
            Check.fails("cell " + k, Check.NO_SUCH, () -> x.cell(0, k));
        }
    }

    private static void outputs() {
        CodeJudge x = new CodeJudge();
        x.method(0, 0, 0, 0, 1, 2);
        Check.code(x, 0, Check.CONSTANT, 1000, Check.STORE, 0, Check.LOAD, 0, Check.DOUBLE, 0,
                Check.OUT, 0, Check.CONSTANT, 1, Check.ADD, 0, Check.STORE, 0, Check.GO, 2);
        x.start(0, 0, 0, 0, 0);
        Check.fails("nothing yet", Check.NO_SUCH, () -> x.output(0));
        x.run(5);
        for (int made : new int[] {1, 2, 99, 100, 101, 199, 200, 201, 250}) {
            while (x.state(8) < made) {
                x.run(7);
            }
            int first = Math.max(0, made - 100);
            Check.due("the latest of " + made, 1000 + made - 1, x.output(made - 1));
            Check.due("the oldest kept of " + made, 1000 + first, x.output(first));
            Check.fails("one too old", Check.NO_SUCH, () -> x.output(first - 1));
            Check.fails("not yet put out", Check.NO_SUCH, () -> x.output(made));
        }
        for (int k : new int[] {-1, MIN, MAX}) {
            Check.fails("output " + k, Check.NO_SUCH, () -> x.output(k));
        }
    }
}
