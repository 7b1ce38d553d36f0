/** Promises 1 to 5 and 15: a new object, method, add, patch, drop and count. */
public final class MethodsTest {
    public static void main(String[] args) {
        newObject();
        methodIsThere();
        methodRefuses();
        methodAnew();
        addCounts();
        addRefuses();
        patchAnswersWhatWas();
        dropForgets();
        countTells();
        changesEndARun();
        refusedCallsChangeNothing();
        Check.end("MethodsTest");
    }

    private static void newObject() {
        CodeJudge x = new CodeJudge();
        for (int what = 0; what <= 2; what++) {
            Check.due("count(" + what + ") of a new object", 0, x.count(what));
        }
        for (int m = -1; m <= 8; m++) {
            int each = m;
            Check.fails("good(" + m + ") of a new object", Check.NO_SUCH, () -> x.good(each));
        }
        needNoRun("a new object", x);
    }

    private static void needNoRun(String name, CodeJudge x) {
        Check.fails("run of " + name, Check.STATE, () -> x.run(0));
        Check.fails("state of " + name, Check.STATE, () -> x.state(0));
        Check.fails("stack of " + name, Check.NO_SUCH, () -> x.value(0, 0));
        Check.fails("local of " + name, Check.NO_SUCH, () -> x.value(1, 0));
        Check.fails("cells of " + name, Check.NO_SUCH, () -> x.cell(0, -1));
        Check.fails("output of " + name, Check.NO_SUCH, () -> x.output(0));
    }

    private static void methodIsThere() {
        CodeJudge x = new CodeJudge();
        for (int m = 0; m <= 7; m++) {
            Check.due("method, first", false, x.method(m, 0, 0, 0, 0, 0));
            Check.due("method, again", true, x.method(m, 4, 15, 2, 10, 15));
            Check.due("methods", m + 1, x.count(0));
        }
        Check.due("all parameters arrays, no other locals", true, x.method(0, 4, 15, 0, 4, 0));
        Check.due("no parameters, ten locals", true, x.method(0, 0, 0, 1, 10, 15));
    }

    private static void methodRefuses() {
        CodeJudge x = new CodeJudge();
        Check.fails("m 8", Check.NO_SUCH, () -> x.method(8, 0, 0, 0, 0, 0));
        Check.fails("m -1", Check.NO_SUCH, () -> x.method(-1, 0, 0, 0, 0, 0));
        Check.fails("m before the rest", Check.NO_SUCH, () -> x.method(8, 9, 9, 9, 99, 99));
        int[][] wrong = {
            {-1, 0, 0, 4, 0}, {5, 0, 0, 9, 0}, {Integer.MAX_VALUE, 0, 0, 10, 0},
            {Integer.MIN_VALUE, 0, 0, 10, 0},
            {0, 1, 0, 4, 0}, {2, 4, 0, 4, 0}, {4, 16, 0, 4, 0}, {4, -1, 0, 4, 0},
            {4, Integer.MIN_VALUE, 0, 4, 0},
            {1, 0, -1, 4, 0}, {1, 0, 3, 4, 0},
            {1, 0, 0, 0, 0}, {4, 0, 0, 3, 0}, {1, 0, 0, 11, 0}, {0, 0, 0, -1, 0},
            {1, 0, 0, 1, -1}, {1, 0, 0, 1, 16},
        };
        for (int[] w : wrong) {
            Check.fails("method" + java.util.Arrays.toString(w), Check.ARGUMENT,
                    () -> x.method(0, w[0], w[1], w[2], w[3], w[4]));
        }
        Check.due("nothing came of it", 0, x.count(0));
    }

    private static void methodAnew() {
        CodeJudge x = new CodeJudge();
        x.method(3, 0, 0, 0, 0, 0);
        Check.code(x, 3, Check.RETURN, 0);
        Check.due("good before", true, x.good(3));
        Check.due("was there", true, x.method(3, 0, 0, 0, 0, 0));
        Check.due("the code is gone", 0, x.count(1));
        Check.due("without code it is not good", false, x.good(3));
        Check.fails("no place 0", Check.NO_SUCH, () -> x.height(3, 0));
        Check.fails("no place 0 to patch", Check.NO_SUCH, () -> x.patch(3, 0, 1));
        Check.due("the first instruction again", 1, x.add(3, Check.RETURN, 0));
    }

    private static void addCounts() {
        CodeJudge x = new CodeJudge();
        x.method(7, 0, 0, 0, 0, 1);
        x.method(1, 0, 0, 0, 0, 1);
        for (int i = 1; i <= 120; i++) {
            Check.due("add", i, x.add(7, i % 26, Integer.MIN_VALUE + i));
        }
        Check.fails("the 121st", Check.STATE, () -> x.add(7, 0, 0));
        Check.fails("the 121st, order 26", Check.ARGUMENT, () -> x.add(7, 26, 0));
        Check.due("there are 120", 120, x.count(1));
        Check.due("another method has its own code", 1, x.add(1, 0, 0));
        Check.due("all of it stayed", Integer.MIN_VALUE + 120, x.patch(7, 119, 0));
    }

    private static void addRefuses() {
        CodeJudge x = new CodeJudge();
        x.method(0, 0, 0, 0, 0, 1);
        Check.fails("add to none", Check.NO_SUCH, () -> x.add(1, 0, 0));
        Check.fails("add to none, order 26", Check.NO_SUCH, () -> x.add(1, 26, 0));
        Check.fails("add to 8", Check.NO_SUCH, () -> x.add(8, 0, 0));
        Check.fails("add to -1", Check.NO_SUCH, () -> x.add(-1, 0, 0));
        Check.fails("order 26", Check.ARGUMENT, () -> x.add(0, 26, 0));
        Check.fails("order -1", Check.ARGUMENT, () -> x.add(0, -1, 0));
        Check.due("nothing came of it", 0, x.count(1));
    }

    private static void patchAnswersWhatWas() {
        CodeJudge x = new CodeJudge();
        x.method(0, 0, 0, 1, 0, 1);
        Check.code(x, 0, Check.CONSTANT, 7, Check.RETURN, 0);
        Check.due("patch", 7, x.patch(0, 0, -9));
        Check.due("patch again", -9, x.patch(0, 0, 11));
        Check.due("the order stayed, and so did goodness", true, x.good(0));
        x.start(0, 0, 0, 0, 0);
        x.run(2);
        Check.due("the new number is used", 11, x.state(5));
        Check.fails("place 2", Check.NO_SUCH, () -> x.patch(0, 2, 0));
        Check.fails("place -1", Check.NO_SUCH, () -> x.patch(0, -1, 0));
        Check.fails("method 1", Check.NO_SUCH, () -> x.patch(1, 0, 0));
        Check.fails("method 8", Check.NO_SUCH, () -> x.patch(8, 0, 0));
        Check.fails("method -1", Check.NO_SUCH, () -> x.patch(-1, 0, 0));
        Check.due("a refused patch ends no run", 11, x.state(5));
    }

    private static void dropForgets() {
        CodeJudge x = new CodeJudge();
        x.method(2, 0, 0, 0, 0, 1);
        x.method(5, 0, 0, 0, 0, 0);
        Check.code(x, 2, Check.CALL, 5, Check.RETURN, 0);
        Check.code(x, 5, Check.RETURN, 0, Check.RETURN, 0, Check.RETURN, 0);
        Check.due("good while 5 is there", true, x.good(2));
        Check.due("drop", 3, x.drop(5));
        Check.due("not good without 5", false, x.good(2));
        Check.fails("drop again", Check.NO_SUCH, () -> x.drop(5));
        Check.fails("drop 8", Check.NO_SUCH, () -> x.drop(8));
        Check.fails("drop -1", Check.NO_SUCH, () -> x.drop(-1));
        Check.fails("add to what was dropped", Check.NO_SUCH, () -> x.add(5, 0, 0));
        Check.due("it was not there", false, x.method(5, 0, 0, 0, 0, 0));
        Check.due("drop one without code", 0, x.drop(5));
    }

    private static void countTells() {
        CodeJudge x = new CodeJudge();
        x.method(0, 0, 0, 0, 0, 0);
        x.method(4, 0, 0, 0, 0, 0);
        x.method(7, 0, 0, 0, 0, 0);
        Check.code(x, 0, Check.RETURN, 0);
        Check.code(x, 4, Check.RETURN, 0, Check.ADD, 0);
        Check.code(x, 7, Check.ADD, 0, Check.ADD, 0, Check.ADD, 0);
        Check.due("methods", 3, x.count(0));
        Check.due("instructions", 6, x.count(1));
        Check.due("good methods", 2, x.count(2));
        x.drop(4);
        Check.due("methods without 4", 2, x.count(0));
        Check.due("instructions without 4", 4, x.count(1));
        Check.due("good methods without 4", 1, x.count(2));
        Check.fails("count(3)", Check.ARGUMENT, () -> x.count(3));
        Check.fails("count(-1)", Check.ARGUMENT, () -> x.count(-1));
    }

    private static CodeJudge running() {
        CodeJudge x = new CodeJudge();
        x.method(0, 1, 1, 0, 1, 1);
        x.method(1, 0, 0, 0, 0, 0);
        Check.code(x, 0, Check.CONSTANT, 5, Check.OUT, 0, Check.CONSTANT, 1, Check.DROP, 0,
                Check.RETURN, 0);
        Check.code(x, 1, Check.RETURN, 0);
        x.start(0, 3, 0, 0, 0);
        x.run(3);
        return x;
    }

    private static void changesEndARun() {
        CodeJudge byMethod = running();
        byMethod.method(6, 0, 0, 0, 0, 0);
        needNoRun("method", byMethod);
        CodeJudge byAdd = running();
        byAdd.add(1, 0, 0);
        needNoRun("add", byAdd);
        CodeJudge byPatch = running();
        byPatch.patch(1, 0, 0);
        needNoRun("patch", byPatch);
        CodeJudge byDrop = running();
        byDrop.drop(1);
        needNoRun("drop", byDrop);
    }

    private static void refusedCallsChangeNothing() {
        CodeJudge x = running();
        Check.fails("method", Check.ARGUMENT, () -> x.method(1, 5, 0, 0, 0, 0));
        Check.fails("method 8", Check.NO_SUCH, () -> x.method(8, 0, 0, 0, 0, 0));
        Check.fails("add", Check.ARGUMENT, () -> x.add(1, 26, 0));
        Check.fails("patch", Check.NO_SUCH, () -> x.patch(1, 1, 0));
        Check.fails("drop", Check.NO_SUCH, () -> x.drop(2));
        Check.fails("start of none", Check.NO_SUCH, () -> x.start(2, 0, 0, 0, 0));
        Check.fails("start", Check.ARGUMENT, () -> x.start(0, 401, 0, 0, 0));
        Check.fails("run", Check.ARGUMENT, () -> x.run(2001));
        x.good(0);
        x.good(1);
        x.height(0, 0);
        x.type(0, 0, 1, 0);
        x.count(2);
        Check.due("the run is still there", 0, x.state(0));
        Check.due("its steps", 3, x.state(1));
        Check.due("its place", 3, x.state(4));
        Check.due("its stack", 1, x.value(0, 0));
        Check.due("its cells", 3, x.cell(0, -1));
        Check.due("its output", 5, x.output(0));
    }
}
