import java.util.function.Consumer;
import java.util.function.Supplier;

/**
 * "EXCEPTIONS: ... Such a call changes nothing.": each call that the document refuses, just outside
 * each bound, without a run, within one, behind its end and behind its trouble. It throws what the
 * document says, and afterwards the object is like one that never had the call.
 */
public final class RefusedTest {
    private static final int MIN = Integer.MIN_VALUE;
    private static final int MAX = Integer.MAX_VALUE;

    // The methods of the objects here.
    private static final int CALLER = 0;
    private static final int EMPTY = 1;
    private static final int CALLS_EMPTY = 2;
    private static final int CALLS_THAT = 3;
    private static final int ABSENT = 4;
    private static final int FULL = 5;
    private static final int ARRAYS = 6;
    private static final int CALLED = 7;

    private static final int[] NO_METHODS = {-1, ABSENT, 8, MIN, MAX};

    public static void main(String[] args) {
        method();
        add();
        patch();
        drop();
        good();
        height();
        type();
        start();
        run();
        state();
        value();
        cell();
        output();
        count();
        Check.end("RefusedTest");
    }

    private static CodeJudge idle() {
        CodeJudge x = new CodeJudge();
        x.method(CALLER, 2, 2, 1, 4, 3);
        x.method(EMPTY, 1, 1, 0, 1, 0);
        x.method(CALLS_EMPTY, 1, 1, 0, 1, 1);
        x.method(CALLS_THAT, 1, 1, 0, 1, 1);
        x.method(FULL, 0, 0, 0, 0, 0);
        x.method(ARRAYS, 4, 15, 0, 4, 0);
        x.method(CALLED, 1, 0, 1, 2, 2);
        Check.write(x, CALLER, "LOAD_ARRAY 1, CONSTANT 1, CONSTANT 44, PUT, CONSTANT 3, NEW, "
                + "STORE_ARRAY 3, CONSTANT 5, OUT, CONSTANT 9, LOAD 0, CALL 7, ADD, RETURN");
        Check.write(x, CALLS_EMPTY, "LOAD_ARRAY 0, CALL 1, RETURN");
        Check.write(x, CALLS_THAT, "LOAD_ARRAY 0, CALL 2, RETURN");
        Check.write(x, ARRAYS, "RETURN");
        Check.write(x, CALLED, "CONSTANT 12, LOAD 0, DIVIDE, DOUBLE, OUT, STORE 1, LOAD 1, RETURN");
        for (int place = 0; place < 120; place++) {
            x.add(FULL, Check.RETURN, place);
        }
        return x;
    }

    /** In the second frame, ahead of its DOUBLE. */
    private static CodeJudge running() {
        CodeJudge x = idle();
        x.start(CALLER, 4, 2, 0, 0);
        x.run(15);
        return x;
    }

    private static CodeJudge ended() {
        CodeJudge x = running();
        x.run(2000);
        return x;
    }

    private static CodeJudge troubled() {
        CodeJudge x = idle();
        x.start(CALLER, 0, 2, 0, 0);
        x.run(2000);
        return x;
    }

    /** Refused, whatever the run. */
    private static void always(String what, Class<?> want, Consumer<CodeJudge> call) {
        View.refused(what + " without a run", want, RefusedTest::idle, call);
        withRun(what, want, call);
    }

    private static void withRun(String what, Class<?> want, Consumer<CodeJudge> call) {
        View.refused(what + " within a run", want, RefusedTest::running, call);
        View.refused(what + " behind the end", want, RefusedTest::ended, call);
        View.refused(what + " behind trouble", want, RefusedTest::troubled, call);
    }

    /** Refused where no run is: there was none, or a change ended it to be. */
    private static void withoutRun(String what, Class<?> want, Consumer<CodeJudge> call) {
        View.refused(what + " of a new object", want, CodeJudge::new, call);
        View.refused(what + " without a run", want, RefusedTest::idle, call);
        View.refused(what + " behind a change", want, changed(RefusedTest::running), call);
        View.refused(what + " behind end and change", want, changed(RefusedTest::ended), call);
    }

    private static Supplier<CodeJudge> changed(Supplier<CodeJudge> made) {
        return () -> {
            CodeJudge x = made.get();
            x.patch(CALLED, 0, 12);
            return x;
        };
    }

    private static void method() {
        for (int m : new int[] {-1, 8, MIN, MAX}) {
            always("method " + m, Check.NO_SUCH, x -> x.method(m, 0, 0, 0, 0, 0));
            always("method " + m + ", all wrong", Check.NO_SUCH, x -> x.method(m, 5, 1, 3, 11, 16));
        }
        int[][] wrong = {
            {-1, 0, 0, 4, 2}, {5, 0, 0, 9, 2}, {MIN, 0, 0, 4, 2}, {MAX, 0, 0, 9, 2},
            {0, 1, 0, 4, 2}, {1, 2, 0, 4, 2}, {2, 4, 0, 4, 2}, {3, 8, 0, 4, 2}, {4, 16, 0, 4, 2},
            {4, 31, 0, 4, 2}, {4, -1, 0, 4, 2}, {0, MIN, 0, 4, 2}, {4, MAX, 0, 4, 2},
            {1, 0, -1, 4, 2}, {1, 0, 3, 4, 2}, {1, 0, MIN, 4, 2}, {1, 0, MAX, 4, 2},
            {0, 0, 0, -1, 2}, {1, 0, 0, 0, 2}, {4, 0, 0, 3, 2}, {0, 0, 0, 11, 2}, {4, 0, 0, 11, 2},
            {0, 0, 0, MIN, 2}, {0, 0, 0, MAX, 2},
            {1, 0, 0, 4, -1}, {1, 0, 0, 4, 16}, {1, 0, 0, 4, MIN}, {1, 0, 0, 4, MAX},
        };
        for (int[] w : wrong) {
            for (int m : new int[] {CALLER, ABSENT, CALLED}) {
                always("method " + m + java.util.Arrays.toString(w), Check.ARGUMENT,
                        x -> x.method(m, w[0], w[1], w[2], w[3], w[4]));
            }
        }
    }

    private static void add() {
        for (int m : NO_METHODS) {
            always("add to " + m, Check.NO_SUCH, x -> x.add(m, 0, 0));
            always("add to " + m + ", order 26", Check.NO_SUCH, x -> x.add(m, 26, 0));
        }
        for (int order : new int[] {-1, 26, MIN, MAX}) {
            always("add order " + order, Check.ARGUMENT, x -> x.add(CALLER, order, 0));
            always("add to 120, order " + order, Check.ARGUMENT, x -> x.add(FULL, order, 0));
        }
        always("add to 120", Check.STATE, x -> x.add(FULL, 0, 0));
        always("add to 120, last order", Check.STATE, x -> x.add(FULL, 25, 0));
    }

    private static void patch() {
        for (int m : NO_METHODS) {
            always("patch " + m, Check.NO_SUCH, x -> x.patch(m, 0, 1));
        }
        for (int place : new int[] {-1, 14, 119, 120, MIN, MAX}) {
            always("patch at " + place, Check.NO_SUCH, x -> x.patch(CALLER, place, 1));
        }
        for (int place : new int[] {-1, 120, MIN, MAX}) {
            always("patch of 120 at " + place, Check.NO_SUCH, x -> x.patch(FULL, place, 1));
        }
        for (int place : new int[] {-1, 0}) {
            always("patch of no code at " + place, Check.NO_SUCH, x -> x.patch(EMPTY, place, 1));
        }
    }

    private static void drop() {
        for (int m : NO_METHODS) {
            always("drop " + m, Check.NO_SUCH, x -> x.drop(m));
        }
    }

    private static void good() {
        for (int m : NO_METHODS) {
            always("good " + m, Check.NO_SUCH, x -> x.good(m));
        }
    }

    /** A method that is not good, with code. */
    private static Supplier<CodeJudge> spoilt(Supplier<CodeJudge> made) {
        return () -> {
            CodeJudge x = made.get();
            x.drop(EMPTY);
            return x;
        };
    }

    private static void height() {
        for (int m : NO_METHODS) {
            always("height " + m, Check.NO_SUCH, x -> x.height(m, 0));
        }
        for (int place : new int[] {-1, 14, 120, MIN, MAX}) {
            always("height at " + place, Check.NO_SUCH, x -> x.height(CALLER, place));
        }
        for (int place : new int[] {-1, 0}) {
            always("height of no code at " + place, Check.NO_SUCH, x -> x.height(EMPTY, place));
        }
        Supplier<CodeJudge> spoilt = spoilt(RefusedTest::running);
        for (int place = 0; place < 3; place++) {
            int each = place;
            View.refused("height, not good", Check.STATE, spoilt, x -> x.height(2, each));
        }
        View.refused("place 3, not good", Check.NO_SUCH, spoilt, x -> x.height(2, 3));
        View.refused("place -1, not good", Check.NO_SUCH, spoilt, x -> x.height(2, -1));
    }

    private static void type() {
        for (int m : NO_METHODS) {
            always("type " + m, Check.NO_SUCH, x -> x.type(m, 0, 0, 0));
        }
        for (int place : new int[] {-1, 14, 120, MIN, MAX}) {
            always("type at " + place, Check.NO_SUCH, x -> x.type(CALLER, place, 1, 0));
        }
        for (int kind : new int[] {-1, 2, MIN, MAX}) {
            always("type, kind " + kind, Check.NO_SUCH, x -> x.type(CALLER, 0, kind, 0));
        }
        for (int k : new int[] {-1, MIN}) {
            always("type, stack " + k, Check.NO_SUCH, x -> x.type(CALLER, 0, 0, k));
        }
        for (int k : new int[] {-1, 4, 10, MIN, MAX}) {
            always("type, local " + k, Check.NO_SUCH, x -> x.type(CALLER, 0, 1, k));
        }
        always("type, local 0 of none", Check.NO_SUCH, x -> x.type(FULL, 0, 1, 0));
        always("type, no way, local 0 of none", Check.NO_SUCH, x -> x.type(FULL, 9, 1, 0));
        always("type, no way, stack -1", Check.NO_SUCH, x -> x.type(FULL, 9, 0, -1));
        Supplier<CodeJudge> spoilt = spoilt(RefusedTest::running);
        View.refused("stack, not good", Check.STATE, spoilt, x -> x.type(2, 0, 0, 0));
        View.refused("far up, not good", Check.STATE, spoilt, x -> x.type(2, 0, 0, MAX));
        View.refused("local, not good", Check.STATE, spoilt, x -> x.type(2, 2, 1, 0));
        View.refused("place 3, not good", Check.NO_SUCH, spoilt, x -> x.type(2, 3, 0, 0));
        View.refused("kind 2, not good", Check.NO_SUCH, spoilt, x -> x.type(2, 0, 2, 0));
        View.refused("stack -1, not good", Check.NO_SUCH, spoilt, x -> x.type(2, 0, 0, -1));
        View.refused("local 1, not good", Check.NO_SUCH, spoilt, x -> x.type(2, 0, 1, 1));
    }

    private static void start() {
        for (int m : NO_METHODS) {
            always("start " + m, Check.NO_SUCH, x -> x.start(m, 0, 0, 0, 0));
            always("start " + m + ", all wrong", Check.NO_SUCH, x -> x.start(m, -1, -1, -1, -1));
        }
        for (int cells : new int[] {-1, 401, MIN, MAX}) {
            always("start, a " + cells, Check.ARGUMENT, x -> x.start(ARRAYS, cells, 0, 0, 0));
            always("start, b " + cells, Check.ARGUMENT, x -> x.start(ARRAYS, 0, cells, 0, 0));
            always("start, c " + cells, Check.ARGUMENT, x -> x.start(ARRAYS, 0, 0, cells, 0));
            always("start, d " + cells, Check.ARGUMENT, x -> x.start(ARRAYS, 0, 0, 0, cells));
            for (int m : new int[] {EMPTY, CALLS_EMPTY, CALLS_THAT}) {
                always("start, not good, " + cells, Check.ARGUMENT,
                        x -> x.start(m, cells, 0, 0, 0));
            }
        }
        for (int cells : new int[] {0, 400}) {
            always("start of what is not good", Check.STATE, x -> x.start(EMPTY, cells, 0, 0, 0));
            always("start of what calls it", Check.STATE,
                    x -> x.start(CALLS_EMPTY, cells, 0, 0, 0));
            always("start of what calls that", Check.STATE,
                    x -> x.start(CALLS_THAT, cells, 0, 0, 0));
        }
    }

    private static void run() {
        for (int n : new int[] {-1, 2001, MIN, MAX}) {
            always("run " + n, Check.ARGUMENT, x -> x.run(n));
        }
        for (int n : new int[] {0, 1, 2000}) {
            withoutRun("run " + n, Check.STATE, x -> x.run(n));
        }
    }

    private static void state() {
        for (int what : new int[] {-1, 9, MIN, MAX}) {
            always("state " + what, Check.ARGUMENT, x -> x.state(what));
        }
        for (int what = 0; what <= 8; what++) {
            int each = what;
            withoutRun("state " + what, Check.STATE, x -> x.state(each));
        }
    }

    private static void value() {
        for (int kind : new int[] {-1, 2, MIN, MAX}) {
            always("value, kind " + kind, Check.NO_SUCH, x -> x.value(kind, 0));
        }
        for (int k : new int[] {-1, 2, 15, MIN, MAX}) {
            always("value, stack " + k, Check.NO_SUCH, x -> x.value(0, k));
            always("value, local " + k, Check.NO_SUCH, x -> x.value(1, k));
        }
        View.refused("value, stack 1 of 1", Check.NO_SUCH, RefusedTest::running,
                x -> x.value(0, 1));
        for (int kind = 0; kind <= 1; kind++) {
            int each = kind;
            withoutRun("value " + kind, Check.NO_SUCH, x -> x.value(each, 0));
            View.refused("value " + kind + ", ended", Check.NO_SUCH, RefusedTest::ended,
                    x -> x.value(each, 0));
        }
    }

    private static void cell() {
        for (int array : new int[] {-1, 2, 199, 200, MIN, MAX}) {
            always("cells of array " + array, Check.NO_SUCH, x -> x.cell(array, -1));
            always("cell of array " + array, Check.NO_SUCH, x -> x.cell(array, 0));
        }
        for (int k : new int[] {-2, 2, 1999, 2000, MIN, MAX}) {
            always("cell " + k + " of 2", Check.NO_SUCH, x -> x.cell(0, k));
        }
        for (int k : new int[] {-2, 3, MIN, MAX}) {
            always("cell " + k + " of 3", Check.NO_SUCH, x -> x.cell(1, k));
        }
        for (int k : new int[] {-1, 0}) {
            withoutRun("cell " + k, Check.NO_SUCH, x -> x.cell(0, k));
        }
    }

    /** A run that has put out so many values. */
    private static Supplier<CodeJudge> loud(int values) {
        return () -> {
            CodeJudge x = Check.judging("", 0, 0, 1, "CONSTANT 7, OUT, GO 0");
            x.start(0, 0, 0, 0, 0);
            x.run(3 * values);
            return x;
        };
    }

    private static void output() {
        for (int k : new int[] {-1, 2, 99, 100, MIN, MAX}) {
            always("output " + k, Check.NO_SUCH, x -> x.output(k));
        }
        withoutRun("output 0", Check.NO_SUCH, x -> x.output(0));
        View.refused("nothing put out", Check.NO_SUCH, loud(0), x -> x.output(0));
        View.refused("output 100 of 100", Check.NO_SUCH, loud(100), x -> x.output(100));
        View.refused("output -1 of 100", Check.NO_SUCH, loud(100), x -> x.output(-1));
        View.refused("output 0 of 101", Check.NO_SUCH, loud(101), x -> x.output(0));
        View.refused("output 101 of 101", Check.NO_SUCH, loud(101), x -> x.output(101));
        View.refused("output 99 of 200", Check.NO_SUCH, loud(200), x -> x.output(99));
        View.refused("output 0 of 666", Check.NO_SUCH, loud(666), x -> x.output(0));
    }

    private static void count() {
        for (int what : new int[] {-1, 3, MIN, MAX}) {
            always("count " + what, Check.ARGUMENT, x -> x.count(what));
            View.refused("count " + what + " of a new object", Check.ARGUMENT, CodeJudge::new,
                    x -> x.count(what));
        }
    }
}
