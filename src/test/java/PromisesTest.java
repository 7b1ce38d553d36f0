import java.util.function.Consumer;

/**
 * The promises 1 to 15, sentence by sentence: the calls that each names at its bounds and that are
 * not refused (RefusedTest has those that are), and what they answer and change.
 */
public final class PromisesTest {
    private static final int MIN = Integer.MIN_VALUE;
    private static final int MAX = Integer.MAX_VALUE;

    public static void main(String[] args) {
        newHasNoMethods();
        newHasNoRun();
        methodTellsWhetherItWasThere();
        methodIsWithoutCode();
        methodIsAnew();
        methodTakesItsBounds();
        methodAddPatchDropEndARun();
        addTellsHowMany();
        addTakesItsBounds();
        patchTellsWhatItWas();
        patchTakesItsBounds();
        dropTellsHowMany();
        dropLeavesNothingThere();
        goodChangesWithTheCode();
        goodChangesWithTheCalled();
        goodIsEachMethodsOwn();
        heightFrom0To15();
        heightIsNoneOnNoWay();
        typeAtItsBounds();
        typeIsNeither();
        typeIsNoneOnNoWay();
        startTakesItsBounds();
        startTakesAnyInts();
        startLooksAtCalledOnes();
        startLooksAtWaysOnly();
        startBeginsAnew();
        runTakesItsBounds();
        runStopsAtTheEnd();
        state0();
        state2To4();
        state5();
        state6And7();
        state8();
        valueAtItsBounds();
        valueOfTheUpperFrame();
        cellAtItsBounds();
        cellOfAnEndedRun();
        outputAtItsBounds();
        countOfNoneAndAll();
        fiveHundredAndTwelveCalls();
        Check.end("PromisesTest");
    }

    /** Promise 1: "No methods". */
    private static void newHasNoMethods() {
        CodeJudge x = new CodeJudge();
        for (int what = 0; what <= 2; what++) {
            Check.due("count " + what, 0, x.count(what));
        }
        for (int m = 0; m <= 7; m++) {
            int each = m;
            Check.fails("add", Check.NO_SUCH, () -> x.add(each, 0, 0));
            Check.fails("patch", Check.NO_SUCH, () -> x.patch(each, 0, 0));
            Check.fails("drop", Check.NO_SUCH, () -> x.drop(each));
            Check.fails("good", Check.NO_SUCH, () -> x.good(each));
            Check.fails("height", Check.NO_SUCH, () -> x.height(each, 0));
            Check.fails("type", Check.NO_SUCH, () -> x.type(each, 0, 0, 0));
            Check.fails("start", Check.NO_SUCH, () -> x.start(each, 0, 0, 0, 0));
            Check.due("method", false, x.method(m, 0, 0, 0, 0, 0));
        }
    }

    private static void needNoRun(String what, CodeJudge x) {
        Check.fails(what + ": run", Check.STATE, () -> x.run(0));
        for (int k = 0; k <= 8; k++) {
            int each = k;
            Check.fails(what + ": state", Check.STATE, () -> x.state(each));
        }
        Check.fails(what + ": stack", Check.NO_SUCH, () -> x.value(0, 0));
        Check.fails(what + ": local", Check.NO_SUCH, () -> x.value(1, 0));
        Check.fails(what + ": cells", Check.NO_SUCH, () -> x.cell(0, -1));
        Check.fails(what + ": cell", Check.NO_SUCH, () -> x.cell(0, 0));
        Check.fails(what + ": output", Check.NO_SUCH, () -> x.output(0));
    }

    /** Promise 1: "no run". */
    private static void newHasNoRun() {
        needNoRun("new", new CodeJudge());
    }

    /** Promise 2: "whether it was there". */
    private static void methodTellsWhetherItWasThere() {
        CodeJudge x = new CodeJudge();
        for (int m : new int[] {0, 3, 7}) {
            Check.due("first", false, x.method(m, 0, 0, 0, 0, 0));
            Check.due("again", true, x.method(m, 0, 0, 0, 0, 0));
            x.drop(m);
            Check.due("behind drop", false, x.method(m, 0, 0, 0, 0, 0));
        }
        Check.due("three", 3, x.count(0));
    }

    /** Promise 2: "A method is there, without code": 0 instructions, and not good. */
    private static void methodIsWithoutCode() {
        CodeJudge x = new CodeJudge();
        x.method(5, 4, 15, 2, 10, 15);
        Check.due("there", 1, x.count(0));
        Check.due("without code", 0, x.count(1));
        Check.due("not good", false, x.good(5));
        Check.fails("no place 0", Check.NO_SUCH, () -> x.height(5, 0));
        Check.due("dropped", 0, x.drop(5));
    }

    /** Promise 2: "(one that was, anew)": its code, full or not, is gone, and all it had is new. */
    private static void methodIsAnew() {
        CodeJudge x = new CodeJudge();
        x.method(5, 1, 1, 1, 3, 2);
        for (int place = 0; place < 120; place++) {
            x.add(5, Check.RETURN, place);
        }
        Check.due("it was there", true, x.method(5, 2, 2, 0, 2, 1));
        Check.due("no code", 0, x.count(1));
        Check.due("the first again", 1, x.add(5, Check.LOAD, 0));
        Check.write(x, 5, "DROP, RETURN");
        Check.due("a first int as parameter, nothing returned", true, x.good(5));
        Check.due("a second one, an array", 2, x.type(5, 0, 1, 1));
        Check.fails("two locals", Check.NO_SUCH, () -> x.type(5, 0, 1, 2));
        x.method(5, 2, 2, 0, 2, 0);
        Check.write(x, 5, "LOAD 0, DROP, RETURN");
        Check.due("the new limit", false, x.good(5));
    }

    /** Promise 2: the lowest and the highest of m, parameters, arrays, returns, locals, limit. */
    private static void methodTakesItsBounds() {
        for (int m : new int[] {0, 7}) {
            for (int parameters = 0; parameters <= 4; parameters++) {
                for (int arrays : new int[] {0, (1 << parameters) - 1}) {
                    for (int locals : new int[] {parameters, 10}) {
                        CodeJudge x = new CodeJudge();
                        Check.due("lowest", false, x.method(m, parameters, arrays, 0, locals, 0));
                        Check.due("highest", true, x.method(m, parameters, arrays, 2, locals, 15));
                    }
                }
            }
        }
    }

    /** In a second frame, with arrays and output. */
    private static CodeJudge running() {
        CodeJudge x = Check.judging("ia", 0, 3, 2, "CONSTANT 5, OUT, LOAD 0, CALL 1, DROP, RETURN");
        x.method(1, 1, 0, 1, 1, 2);
        Check.write(x, 1, "CONSTANT 9, LOAD 0, DIVIDE, RETURN");
        x.method(2, 0, 0, 0, 0, 0);
        Check.write(x, 2, "RETURN 6");
        x.start(0, 3, 2, 0, 0);
        x.run(5);
        return x;
    }

    private static void endsARun(String what, Consumer<CodeJudge> change) {
        CodeJudge x = running();
        Check.due("it runs", 0, x.state(0));
        change.accept(x);
        needNoRun(what + " within a run", x);
        x = running();
        x.run(2000);
        Check.due("it has ended", 1, x.state(0));
        change.accept(x);
        needNoRun(what + " behind the end", x);
        x = running();
        x.start(0, 0, 2, 0, 0);
        x.run(2000);
        Check.due("trouble", 2, x.state(0));
        change.accept(x);
        needNoRun(what + " behind trouble", x);
    }

    /** Promises 2 to 5: "A run ends to be.", also if it never came to the method that changes. */
    private static void methodAddPatchDropEndARun() {
        for (int m : new int[] {0, 1, 2, 7}) {
            endsARun("method " + m, x -> x.method(m, 0, 0, 0, 0, 0));
        }
        for (int m : new int[] {0, 1, 2}) {
            endsARun("add " + m, x -> x.add(m, Check.RETURN, 0));
            endsARun("patch " + m, x -> x.patch(m, 0, 5));
            endsARun("drop " + m, x -> x.drop(m));
        }
        endsARun("patch of the same number", x -> x.patch(2, 0, 6));
    }

    /** Promise 3: "An instruction behind the others of a method: how many there are." */
    private static void addTellsHowMany() {
        CodeJudge x = new CodeJudge();
        x.method(0, 0, 0, 0, 0, 0);
        x.method(7, 0, 0, 0, 0, 0);
        Check.due("the first of 0", 1, x.add(0, Check.GO, 30));
        Check.due("the first of 7", 1, x.add(7, Check.GO, 70));
        Check.due("the second of 0", 2, x.add(0, Check.GO, 31));
        Check.due("the third of 0", 3, x.add(0, Check.GO, 32));
        Check.due("the second of 7", 2, x.add(7, Check.GO, 71));
        for (int place = 0; place < 3; place++) {
            Check.due("at its place", 30 + place, x.patch(0, place, 0));
        }
        Check.due("behind the first of 7", 71, x.patch(7, 1, 0));
    }

    /** Promise 3: orders 0 .. 25, 120 instructions, any number. */
    private static void addTakesItsBounds() {
        CodeJudge x = new CodeJudge();
        x.method(3, 0, 0, 0, 0, 0);
        Check.due("order 0", 1, x.add(3, 0, MIN));
        Check.due("order 25", 2, x.add(3, 25, MAX));
        for (int many = 3; many <= 120; many++) {
            Check.due("add", many, x.add(3, many % 26, -many));
        }
        Check.fails("the 121st", Check.STATE, () -> x.add(3, 0, 0));
        Check.due("a lowest number", MIN, x.patch(3, 0, 0));
        Check.due("a highest number", MAX, x.patch(3, 1, 0));
        Check.due("the last instruction", -120, x.patch(3, 119, 0));
        x.method(3, 0, 0, 0, 0, 0);
        Check.due("anew, there is room", 1, x.add(3, 0, 0));
    }

    /** Promise 4: "The number of an instruction: it becomes v: what it was." */
    private static void patchTellsWhatItWas() {
        CodeJudge x = Check.judging("", 1, 0, 2, "CONSTANT 7, RETURN");
        int was = 7;
        for (int v : new int[] {7, -1, MIN, MAX, 0}) {
            Check.due("patch", was, x.patch(0, 0, v));
            x.start(0, 0, 0, 0, 0);
            x.run(2);
            Check.due("the order is the same, the number new", v, x.state(5));
            was = v;
        }
        Check.due("still two instructions", 2, x.count(1));
    }

    /** Promise 4: the first and the last place, of one instruction and of 120. */
    private static void patchTakesItsBounds() {
        CodeJudge x = new CodeJudge();
        x.method(7, 0, 0, 0, 0, 0);
        x.add(7, Check.GO, 500);
        Check.due("the only one", 500, x.patch(7, 0, 501));
        Check.fails("none behind it", Check.NO_SUCH, () -> x.patch(7, 1, 0));
        for (int place = 1; place < 120; place++) {
            x.add(7, Check.GO, 500 + place);
        }
        Check.due("the last of 120", 619, x.patch(7, 119, 620));
        Check.due("the one ahead of it", 618, x.patch(7, 118, 0));
        Check.due("the first of 120", 501, x.patch(7, 0, 0));
        Check.due("the last again", 620, x.patch(7, 119, 0));
    }

    /** Promise 5: "how many instructions it had": none, one, 120. */
    private static void dropTellsHowMany() {
        CodeJudge x = new CodeJudge();
        for (int many : new int[] {0, 1, 120}) {
            x.method(7, 0, 0, 0, 0, 0);
            for (int k = 0; k < many; k++) {
                x.add(7, 0, 0);
            }
            Check.due("drop", many, x.drop(7));
            Check.due("no methods", 0, x.count(0));
            Check.due("no instructions", 0, x.count(1));
        }
    }

    /** Promise 5: "A method is not there any more". */
    private static void dropLeavesNothingThere() {
        CodeJudge x = Check.judging("", 0, 0, 0, "RETURN");
        x.method(7, 0, 0, 0, 0, 0);
        x.drop(0);
        Check.fails("add", Check.NO_SUCH, () -> x.add(0, 0, 0));
        Check.fails("patch", Check.NO_SUCH, () -> x.patch(0, 0, 0));
        Check.fails("drop", Check.NO_SUCH, () -> x.drop(0));
        Check.fails("good", Check.NO_SUCH, () -> x.good(0));
        Check.fails("height", Check.NO_SUCH, () -> x.height(0, 0));
        Check.fails("type", Check.NO_SUCH, () -> x.type(0, 0, 0, 0));
        Check.fails("start", Check.NO_SUCH, () -> x.start(0, 0, 0, 0, 0));
        Check.due("the other stays", 1, x.count(0));
        Check.due("there anew", false, x.method(0, 0, 0, 0, 0, 0));
        Check.due("without its code", 0, x.count(1));
    }

    /** Promise 6: "Whether a method is good", at each moment. */
    private static void goodChangesWithTheCode() {
        CodeJudge x = Check.judging("", 0, 0, 1, "");
        Check.due("without code", false, x.good(0));
        Check.write(x, 0, "GO 1");
        Check.due("a GO to nowhere", false, x.good(0));
        Check.write(x, 0, "RETURN");
        Check.due("and a RETURN", true, x.good(0));
        x.patch(0, 0, 2);
        Check.due("past it", false, x.good(0));
        x.patch(0, 0, 0);
        Check.due("to itself", true, x.good(0));
    }

    /** Promise 6, and "(a call's method need not be good)": but there, with what it takes. */
    private static void goodChangesWithTheCalled() {
        CodeJudge x = Check.judging("", 0, 0, 1, "CONSTANT 0, CALL 7, RETURN");
        Check.due("no method 7", false, x.good(0));
        x.method(7, 1, 0, 0, 1, 0);
        Check.due("method 7 takes an int", true, x.good(0));
        x.method(7, 1, 1, 0, 1, 0);
        Check.due("method 7 takes an array", false, x.good(0));
        x.method(7, 1, 0, 1, 1, 0);
        Check.due("method 7 returns an int", false, x.good(0));
        x.method(7, 0, 0, 0, 0, 0);
        Check.due("method 7 takes nothing", false, x.good(0));
        x.method(7, 2, 0, 0, 2, 0);
        Check.due("method 7 takes two", false, x.good(0));
    }

    /** Promise 6: what was asked before, and of which method, does not matter. */
    private static void goodIsEachMethodsOwn() {
        CodeJudge x = new CodeJudge();
        x.method(0, 0, 0, 0, 0, 1);
        // A way goes wrong while others are still to be followed.
        Check.write(x, 0, "CONSTANT 0, IF_ZERO 4, CONSTANT 0, IF_ZERO 5, ADD, ADD, RETURN");
        x.method(1, 0, 0, 0, 0, 1);
        Check.write(x, 1, "CONSTANT 0, IF_ZERO 3, RETURN, RETURN, ADD, ADD, ADD, ADD");
        x.method(2, 0, 0, 0, 0, 0);
        Check.write(x, 2, "RETURN");
        for (int wrong = 3; wrong <= 6; wrong++) {
            x.method(wrong, 0, 0, 0, 0, 0);
            Check.write(x, wrong, "GO " + wrong);
            for (int place = 1; place <= 6; place++) {
                Check.write(x, wrong, place == wrong ? "ADD" : "RETURN");
            }
        }
        for (int turn = 0; turn < 3; turn++) {
            Check.due("0 is not", false, x.good(0));
            Check.due("1 is", true, x.good(1));
            Check.due("no way to its end", CodeJudge.NONE, x.height(1, 4));
            Check.due("0 is still not", false, x.good(0));
            Check.due("2 is", true, x.good(2));
            Check.due("two are", 2, x.count(2));
            Check.due("0 is not, behind count", false, x.good(0));
            Check.due("height, behind one that is not", 0, x.height(2, 0));
            for (int wrong = 3; wrong <= 6; wrong++) {
                x.good(0);
                Check.due(wrong + " is not, behind 0", false, x.good(wrong));
            }
        }
    }

    /** Promise 7: "How high the stack is ahead of an instruction". */
    private static void heightFrom0To15() {
        CodeJudge x = Check.judging("", 0, 0, 15, "CONSTANT 0");
        for (int high = 2; high <= 15; high++) {
            Check.write(x, 0, high % 2 == 0 ? "DOUBLE" : "NOTHING, DROP, CONSTANT 1");
        }
        for (int high = 15; high > 0; high--) {
            Check.write(x, 0, "DROP");
        }
        Check.write(x, 0, "RETURN");
        int place = 0;
        for (int high = 0; high < 15; high++) {
            Check.due("up", high, x.height(0, place));
            // From the second on, each second int comes behind an array that is dropped.
            place += high > 0 && high % 2 == 0 ? 3 : 1;
        }
        for (int high = 15; high >= 0; high--) {
            Check.due("down", high, x.height(0, place));
            place++;
        }
        Check.fails("behind the last", Check.NO_SUCH, () -> x.height(0, x.count(1)));
    }

    /** Promise 7: "NONE if no way comes there." */
    private static void heightIsNoneOnNoWay() {
        CodeJudge x = Check.judging("", 0, 0, 1, "GO 2, CONSTANT 0, RETURN, CONSTANT 0, DROP");
        int[] due = {0, CodeJudge.NONE, 0, CodeJudge.NONE, CodeJudge.NONE};
        for (int place = 0; place < due.length; place++) {
            Check.due("place " + place, due[place], x.height(0, place));
        }
        x.patch(0, 0, 0);
        Check.due("GO to itself", 0, x.height(0, 0));
        Check.due("and no way to 2", CodeJudge.NONE, x.height(0, 2));
    }

    /** Promise 8: "at k of the stack (kind 0; 0: the lowest), or in local k (kind 1)". */
    private static void typeAtItsBounds() {
        String types = "aiiaiaaaiiiaiai";
        CodeJudge x = Check.judging("ai", 0, 10, 15, "CONSTANT 0, STORE 8, NOTHING, STORE_ARRAY 9, "
                + types.replace("i", "CONSTANT 0, ").replace("a", "NOTHING, ") + "GO 19");
        for (int high = 0; high <= 15; high++) {
            for (int k = 0; k < high; k++) {
                Check.due("stack " + k + " of " + high, types.charAt(k) == 'a' ? 2 : 1,
                        x.type(0, 4 + high, 0, k));
            }
            Check.due("not so high", CodeJudge.NONE, x.type(0, 4 + high, 0, high));
        }
        for (int k : new int[] {0, 15, 31, 32, 33, MAX}) {
            Check.due("stack " + k + " of nothing", CodeJudge.NONE, x.type(0, 0, 0, k));
        }
        for (int k : new int[] {15, 16, 31, 32, 33, 64, MAX}) {
            Check.due("stack " + k + " of 15", CodeJudge.NONE, x.type(0, 19, 0, k));
        }
        int[] locals = {2, 1, 0, 0, 0, 0, 0, 0, 1, 2};
        for (int k = 0; k < locals.length; k++) {
            Check.due("local " + k, locals[k], x.type(0, 19, 1, k));
        }
        Check.fails("local 10", Check.NO_SUCH, () -> x.type(0, 19, 1, 10));
    }

    /** Promise 8: "0 neither on all of them". */
    private static void typeIsNeither() {
        String[] puts = {"GO *, GO *, ", "CONSTANT 0, STORE 1, ", "NOTHING, STORE_ARRAY 1, "};
        for (int one = 0; one < 3; one++) {
            for (int other = 0; other < 3; other++) {
                // A GO to the next place stands for putting nothing.
                CodeJudge x = Check.judging("i", 0, 2, 1, "LOAD 0, IF_ZERO 5, "
                        + puts[one].replaceFirst("\\*", "3").replace("*", "4") + "GO 7, "
                        + puts[other].replaceFirst("\\*", "6").replace("*", "7") + "RETURN");
                Check.due("on one way", one, x.type(0, 4, 1, 1));
                Check.due(one + " and " + other, one == other ? one : 0, x.type(0, 7, 1, 1));
            }
        }
    }

    /** Promise 8: "NONE if no way comes there". */
    private static void typeIsNoneOnNoWay() {
        CodeJudge x = Check.judging("ia", 0, 3, 1, "RETURN, RETURN");
        for (int k = 0; k < 3; k++) {
            Check.due("local " + k, CodeJudge.NONE, x.type(0, 1, 1, k));
            Check.due("stack " + k, CodeJudge.NONE, x.type(0, 1, 0, k));
        }
        Check.due("far up", CodeJudge.NONE, x.type(0, 1, 0, MAX));
    }

    /** Promise 9: 0 to 400 cells of each parameter that is an array. */
    private static void startTakesItsBounds() {
        for (int k = 0; k < 4; k++) {
            for (int cells : new int[] {0, 1, 399, 400}) {
                int[] given = {7, 7, 7, 7};
                given[k] = cells;
                CodeJudge x = Check.judging("aaaa", 0, 4, 0, "RETURN");
                x.start(0, given[0], given[1], given[2], given[3]);
                Check.due("cells of " + k, cells, x.cell(k, -1));
                Check.due("cells of all", 21 + cells, x.state(7));
                Check.due("its number", k, x.value(1, k));
            }
        }
        CodeJudge x = Check.judging("aaaa", 0, 4, 0, "RETURN");
        x.start(0, 400, 400, 400, 400);
        Check.due("all the largest", 1600, x.state(7));
        Check.due("the very last cell", 0, x.cell(3, 399));
    }

    /** Promise 9: "ints" are any, and what is no parameter is not looked at. */
    private static void startTakesAnyInts() {
        for (int arrays = 0; arrays < 16; arrays++) {
            for (int parameters = Integer.SIZE - Integer.numberOfLeadingZeros(arrays);
                    parameters <= 4; parameters++) {
                for (int given : new int[] {MIN, -1, 401, MAX}) {
                    startWithout(parameters, arrays, given);
                }
            }
        }
    }

    /** Arrays have no cells, ints and what is no parameter have that number. */
    private static void startWithout(int parameters, int arrays, int given) {
        CodeJudge x = new CodeJudge();
        x.method(2, parameters, arrays, 0, 4, 0);
        Check.write(x, 2, "RETURN");
        int[] all = new int[4];
        for (int k = 0; k < 4; k++) {
            all[k] = (arrays >> k & 1) != 0 ? 0 : given;
        }
        x.start(2, all[0], all[1], all[2], all[3]);
        int number = 0;
        for (int k = 0; k < 4; k++) {
            int due = k >= parameters ? 0 : given;
            if ((arrays >> k & 1) != 0) {
                due = number;
                number++;
            }
            Check.due("local " + k + " of " + parameters + ", " + arrays, due, x.value(1, k));
        }
        Check.due("arrays", number, x.state(6));
        Check.due("cells", 0, x.state(7));
    }

    /** Promise 9: "or a method that it calls on any way, or one that these call, and so on". */
    private static void startLooksAtCalledOnes() {
        for (int last = 0; last <= 7; last++) {
            lookAtChain(last, 1);
            lookAtChain(last, -1);
        }
    }

    /** A chain of eight, each calling the one before it, of which one is not good. */
    private static void lookAtChain(int wrong, int by) {
        int first = by > 0 ? 0 : 7;
        CodeJudge x = new CodeJudge();
        for (int m = 0; m <= 7; m++) {
            x.method(m, 0, 0, 0, 0, 0);
            Check.write(x, m, m == first ? "RETURN" : "CALL " + (m - by) + ", RETURN");
        }
        for (int m = 0; m <= 7; m++) {
            x.start(m, 0, 0, 0, 0);
            Check.due("all are good", m, x.state(3));
        }
        // A constant above the limit of 0.
        x.method(wrong, 0, 0, 0, 0, 0);
        Check.write(x, wrong, "CONSTANT 0, DROP, RETURN");
        for (int m = 0; m <= 7; m++) {
            int each = m;
            if ((m - wrong) * by >= 0) {
                Check.fails(wrong + " is not good, from " + m, Check.STATE,
                        () -> x.start(each, 0, 0, 0, 0));
            } else {
                x.start(m, 0, 0, 0, 0);
                Check.due("ahead of " + wrong, m, x.state(3));
            }
        }
    }

    /** Promise 9: "on any way": also one that a run never goes, but no call where none comes. */
    private static void startLooksAtWaysOnly() {
        CodeJudge never = Check.judging("", 0, 0, 1,
                "CONSTANT 1, IF_ZERO 3, RETURN, CALL 1, RETURN");
        never.method(1, 0, 0, 0, 0, 0);
        Check.due("good by itself", true, never.good(0));
        Check.fails("a way that no run goes", Check.STATE, () -> never.start(0, 0, 0, 0, 0));
        CodeJudge none = Check.judging("", 0, 0, 1, "RETURN, CALL 1, CALL 6, RETURN");
        none.method(1, 0, 0, 0, 0, 0);
        none.start(0, 0, 0, 0, 0);
        Check.due("no way to the call", 1, none.run(9));
        CodeJudge itself = Check.judging("", 0, 0, 1, "CALL 0, RETURN");
        itself.start(0, 0, 0, 0, 0);
        Check.due("a method that calls itself", 49, itself.run(2000));
    }

    /** Promise 9: "A run of a method begins": whatever the run before was. */
    private static void startBeginsAnew() {
        CodeJudge x = running();
        for (int turn = 0; turn < 3; turn++) {
            x.start(0, turn == 2 ? 0 : 3, 5, 0, 0);
            int[] due = {0, 0, 1, 0, 0, 0, 1, 5, 0};
            for (int what = 0; what < due.length; what++) {
                Check.due("state " + what, due[what], x.state(what));
            }
            Check.fails("stack", Check.NO_SUCH, () -> x.value(0, 0));
            Check.fails("output", Check.NO_SUCH, () -> x.output(0));
            Check.fails("second array", Check.NO_SUCH, () -> x.cell(1, -1));
            x.run(2000);
            Check.due("its outcome", turn == 2 ? 2 : 1, x.state(0));
        }
        startLeavesNoStack();
    }

    /** What was on the stacks of both frames of a run is not on those of the next one. */
    private static void startLeavesNoStack() {
        CodeJudge x = Check.judging("", 0, 0, 3, "CONSTANT 1, DOUBLE, DOUBLE, CALL 1, GO 4");
        x.method(1, 0, 0, 0, 1, 3);
        Check.write(x, 1, "CONSTANT 2, DOUBLE, DOUBLE, STORE 0, GO 4");
        for (int turn = 0; turn < 3; turn++) {
            x.start(0, 0, 0, 0, 0);
            Check.fails("first frame", Check.NO_SUCH, () -> x.value(0, 0));
            x.run(4);
            Check.fails("second frame", Check.NO_SUCH, () -> x.value(0, 0));
            Check.due("its local", 0, x.value(1, 0));
            x.run(4);
            Check.due("its second value", 2, x.value(0, 1));
            Check.fails("and no third", Check.NO_SUCH, () -> x.value(0, 2));
        }
    }

    /** Promise 10: n 0 .. 2000, "At most so many steps: how many were done." */
    private static void runTakesItsBounds() {
        CodeJudge x = Check.judging("", 0, 0, 0, "GO 0");
        x.start(0, 0, 0, 0, 0);
        int steps = 0;
        for (int n : new int[] {0, 1, 1999, 2000, 0, 2000}) {
            Check.due("run " + n, n, x.run(n));
            steps += n;
            Check.due("steps", steps, x.state(1));
        }
        Check.fails("one more", Check.ARGUMENT, () -> x.run(2001));
        Check.fails("one less", Check.ARGUMENT, () -> x.run(-1));
        Check.due("none were done", steps, x.state(1));
    }

    /** Promise 10: fewer steps at the end, none behind it; an ended run is still a run. */
    private static void runStopsAtTheEnd() {
        for (int n = 0; n <= 5; n++) {
            CodeJudge x = Check.judging("", 0, 0, 1, "CONSTANT 1, DROP, RETURN");
            x.start(0, 0, 0, 0, 0);
            Check.due("run " + n, Math.min(3, n), x.run(n));
            Check.due("ended by then", n >= 3 ? 1 : 0, x.state(0));
            Check.due("the rest", 3 - Math.min(3, n), x.run(2000));
            Check.due("ended", 1, x.state(0));
            Check.due("nothing behind it", 0, x.run(2000));
            Check.due("nor without steps", 0, x.run(0));
            Check.due("three steps", 3, x.state(1));
        }
    }

    /** Promise 11: "0 0 if it runs, 1 if it has ended, else the trouble". */
    private static void state0() {
        String[] ways = {"GO 0", "RETURN", "CONSTANT 0, CONSTANT 0, DIVIDE, GO 3",
            "NOTHING, LENGTH, GO 2", "LOAD_ARRAY 0, CONSTANT 0, GET, GO 3",
            "CONSTANT -1, NEW, GO 2", "CONSTANT 2001, NEW, GO 2", "LOAD_ARRAY 0, CALL 0, GO 2"};
        for (int due = 0; due < ways.length; due++) {
            CodeJudge x = Check.judging("a", 0, 1, 2, ways[due]);
            x.start(0, 0, 0, 0, 0);
            Check.due("it runs at first", 0, x.state(0));
            x.run(2000);
            Check.due(ways[due], due, x.state(0));
        }
    }

    /** Promise 11: "2 frames (0: ended); 3 the method of the upper frame, 4 its place ...". */
    private static void state2To4() {
        CodeJudge x = new CodeJudge();
        x.method(7, 0, 0, 0, 0, 0);
        x.method(0, 0, 0, 0, 0, 0);
        Check.write(x, 7, "GO 2, RETURN, CALL 0, GO 1");
        Check.write(x, 0, "RETURN");
        x.start(7, 0, 0, 0, 0);
        int[][] due = {{1, 7, 0}, {1, 7, 2}, {2, 0, 0}, {1, 7, 3}, {1, 7, 1},
            {0, CodeJudge.NONE, CodeJudge.NONE}, {0, CodeJudge.NONE, CodeJudge.NONE}};
        for (int step = 0; step < due.length; step++) {
            for (int what = 2; what <= 4; what++) {
                Check.due("state " + what + " behind " + step, due[step][what - 2], x.state(what));
            }
            x.run(1);
        }
    }

    /** Promise 11: "5 what the first method returned (an array's number; 0: nothing, or ...)". */
    private static void state5() {
        String[] texts = {"RETURN", "CONSTANT -7, RETURN", "CONSTANT 2, NEW, RETURN",
            "LOAD_ARRAY 0, RETURN", "NOTHING, RETURN"};
        int[] returns = {0, 1, 2, 2, 2};
        int[] due = {0, -7, 1, 0, -1};
        for (int i = 0; i < texts.length; i++) {
            CodeJudge x = Check.judging("a", returns[i], 1, 1, texts[i]);
            int steps = texts[i].split(", ").length;
            x.start(0, 3, 0, 0, 0);
            x.run(steps - 1);
            Check.due("not ended, " + texts[i], 0, x.state(5));
            x.run(1);
            Check.due(texts[i], due[i], x.state(5));
        }
        CodeJudge x = Check.judging("", 0, 0, 1, "CALL 1, OUT, RETURN");
        x.method(1, 0, 0, 1, 0, 1);
        Check.write(x, 1, "CONSTANT 8, RETURN");
        x.start(0, 0, 0, 0, 0);
        x.run(3);
        Check.due("another method has returned", 0, x.state(5));
        x.run(2);
        Check.due("ended, the first returns nothing", 0, x.state(5));
        x.start(1, 0, 0, 0, 0);
        Check.due("a new run has not ended", 0, x.state(5));
        x.run(2);
        Check.due("it has now", 8, x.state(5));
        x.method(1, 0, 0, 1, 0, 2);
        Check.write(x, 1, "CONSTANT 8, CONSTANT 0, DIVIDE, RETURN");
        x.start(1, 0, 0, 0, 0);
        x.run(2000);
        Check.due("nothing is returned with trouble", 0, x.state(5));
    }

    /** Promise 11: "6 arrays, 7 their cells": none, those of the parameters, 200 and 2000. */
    private static void state6And7() {
        CodeJudge x = Check.judging("i", 0, 1, 1, "LOAD 0, NEW, DROP, GO 0");
        for (int cells : new int[] {0, 1, 10, 11, 1000, 2000}) {
            x.start(0, cells, 0, 0, 0);
            Check.due("none yet", 0, x.state(6));
            Check.due("no cells yet", 0, x.state(7));
            x.run(1);
            Check.due("none ahead of NEW", 0, x.state(6));
            x.run(1);
            Check.due("one", 1, x.state(6));
            Check.due("its cells", cells, x.state(7));
            x.run(2000);
            int most = cells == 0 ? 200 : Math.min(200, 2000 / cells);
            Check.due("most arrays of " + cells, most, x.state(6));
            Check.due("most cells", most * cells, x.state(7));
        }
    }

    /** Promise 11: "8 how much was put out (the latest 100 are kept)": also what is not kept. */
    private static void state8() {
        CodeJudge x = Check.judging("", 0, 0, 1, "CONSTANT 1, OUT, GO 0");
        x.start(0, 0, 0, 0, 0);
        Check.due("nothing", 0, x.state(8));
        x.run(1);
        Check.due("nothing ahead of OUT", 0, x.state(8));
        for (int values = 1; values <= 102; values++) {
            x.run(1);
            Check.due("put out", values, x.state(8));
            x.run(2);
        }
        x.run(3 * 600);
        Check.due("far more", 702, x.state(8));
    }

    /** Promise 12: "value k of the stack (kind 0), or local k (1); an array's number." */
    private static void valueAtItsBounds() {
        CodeJudge x = Check.judging("ia", 0, 10, 15,
                "CONSTANT 20, DOUBLE, CONSTANT 1, ADD, DOUBLE, CONSTANT 1, ADD, DOUBLE, "
                + "CONSTANT 1, ADD, LOAD_ARRAY 1, NOTHING, CONSTANT 9, STORE 9, GO 14");
        x.start(0, MIN, 6, 0, 0);
        Check.fails("nothing on the stack", Check.NO_SUCH, () -> x.value(0, 0));
        x.run(14);
        int[] stack = {20, 21, 22, 23, 0, -1};
        for (int k = 0; k < stack.length; k++) {
            Check.due("stack " + k, stack[k], x.value(0, k));
        }
        int[] locals = {MIN, 0, 0, 0, 0, 0, 0, 0, 0, 9};
        for (int k = 0; k < locals.length; k++) {
            Check.due("local " + k, locals[k], x.value(1, k));
        }
        for (int k : new int[] {-1, 6, 15, MIN, MAX}) {
            Check.fails("stack " + k, Check.NO_SUCH, () -> x.value(0, k));
        }
        for (int k : new int[] {-1, 10, MIN, MAX}) {
            Check.fails("local " + k, Check.NO_SUCH, () -> x.value(1, k));
        }
        fullStack();
    }

    private static void fullStack() {
        CodeJudge x = Check.judging("", 0, 0, 15, "");
        for (int k = 0; k < 15; k++) {
            Check.write(x, 0, "CONSTANT " + (100 + k));
        }
        Check.write(x, 0, "GO 15");
        x.start(0, 0, 0, 0, 0);
        x.run(15);
        for (int k = 0; k < 15; k++) {
            Check.due("stack " + k + " of 15", 100 + k, x.value(0, k));
        }
        Check.fails("stack 15 of 15", Check.NO_SUCH, () -> x.value(0, 15));
        Check.fails("no local at all", Check.NO_SUCH, () -> x.value(1, 0));
    }

    /** Promise 12: "Of the upper frame": its locals are as many as its method has. */
    private static void valueOfTheUpperFrame() {
        CodeJudge x = Check.judging("i", 0, 2, 2, "CONSTANT 4, LOAD 0, CALL 1, DROP, RETURN");
        x.method(1, 1, 0, 0, 3, 1);
        Check.write(x, 1, "CONSTANT 6, STORE 2, RETURN");
        x.start(0, 5, 0, 0, 0);
        Check.fails("two locals", Check.NO_SUCH, () -> x.value(1, 2));
        x.run(2);
        Check.due("its second value", 5, x.value(0, 1));
        x.run(2);
        Check.due("the called one's value", 6, x.value(0, 0));
        Check.fails("and no second", Check.NO_SUCH, () -> x.value(0, 1));
        x.run(1);
        Check.due("the called one's local", 6, x.value(1, 2));
        Check.fails("of three", Check.NO_SUCH, () -> x.value(1, 3));
        x.run(1);
        Check.due("the caller's value", 4, x.value(0, 0));
        Check.fails("and no second there", Check.NO_SUCH, () -> x.value(0, 1));
        Check.fails("two locals again", Check.NO_SUCH, () -> x.value(1, 2));
        x.run(2);
        Check.fails("ended, stack", Check.NO_SUCH, () -> x.value(0, 0));
        Check.fails("ended, local", Check.NO_SUCH, () -> x.value(1, 0));
    }

    /** Promise 13: "A cell of an array; k = -1: how many it has." */
    private static void cellAtItsBounds() {
        CodeJudge x = Check.judging("aaa", 0, 3, 3, "LOAD_ARRAY 0, CONSTANT 0, CONSTANT 5, PUT, "
                + "LOAD_ARRAY 2, CONSTANT 399, CONSTANT 6, PUT, GO 8");
        x.start(0, 1, 0, 400, 0);
        x.run(8);
        int[] cells = {1, 0, 400};
        for (int array = 0; array < cells.length; array++) {
            int each = array;
            int many = cells[array];
            Check.due("cells of " + array, many, x.cell(array, -1));
            for (int k : new int[] {-2, many, many + 1, 400, 2000, MIN, MAX}) {
                Check.fails("cell " + k + " of " + array, Check.NO_SUCH, () -> x.cell(each, k));
            }
        }
        Check.due("the only one", 5, x.cell(0, 0));
        Check.due("the first of 400", 0, x.cell(2, 0));
        Check.due("the last but one", 0, x.cell(2, 398));
        Check.due("the last", 6, x.cell(2, 399));
        for (int array : new int[] {-1, 3, 200, MIN, MAX}) {
            Check.fails("array " + array, Check.NO_SUCH, () -> x.cell(array, -1));
        }
        mostArrays();
    }

    private static void mostArrays() {
        CodeJudge x = Check.judging("", 0, 0, 3,
                "CONSTANT 10, NEW, CONSTANT 9, CONSTANT 4, PUT, GO 0");
        x.start(0, 0, 0, 0, 0);
        x.run(2000);
        Check.due("200 arrays", 200, x.state(6));
        Check.due("cells of the last", 10, x.cell(199, -1));
        Check.due("its last cell", 4, x.cell(199, 9));
        Check.due("the one ahead of it", 0, x.cell(199, 8));
        Check.fails("array 200", Check.NO_SUCH, () -> x.cell(200, -1));
    }

    /** Promise 13: refused "if there is no run"; one that has ended, or has trouble, is one. */
    private static void cellOfAnEndedRun() {
        CodeJudge x = running();
        x.run(2000);
        Check.due("ended", 1, x.state(0));
        Check.due("its cells", 2, x.cell(0, -1));
        Check.due("its cell", 0, x.cell(0, 1));
        Check.due("its output", 5, x.output(0));
        x.start(0, 0, 2, 0, 0);
        x.run(2000);
        Check.due("trouble", 2, x.state(0));
        Check.due("its cells there", 2, x.cell(0, -1));
        Check.due("its output there", 5, x.output(0));
        Check.due("its local there", 0, x.value(1, 0));
    }

    /** Promise 14: "The k-th value that was put out.", from 0, and as long as it is kept. */
    private static void outputAtItsBounds() {
        CodeJudge x = Check.judging("", 0, 1, 1, "CONSTANT 500, STORE 0, "
                + "LOAD 0, OUT, CONSTANT 0, STORE 0, GO 2");
        x.start(0, 0, 0, 0, 0);
        x.run(4);
        Check.due("the first", 500, x.output(0));
        Check.fails("no second", Check.NO_SUCH, () -> x.output(1));
        Check.fails("none ahead of it", Check.NO_SUCH, () -> x.output(-1));
        CodeJudge y = Check.judging("i", 0, 1, 2, "LOAD 0, OUT, LOAD 0, CONSTANT 1, ADD, STORE 0, "
                + "GO 0");
        for (int values : new int[] {1, 99, 100, 101, 102, 199, 200, 201, 285}) {
            y.start(0, 1000, 0, 0, 0);
            y.run(7 * (values - 1) + 2);
            int oldest = Math.max(0, values - 100);
            Check.due("put out", values, y.state(8));
            Check.due("the latest of " + values, 999 + values, y.output(values - 1));
            Check.due("the oldest of " + values, 1000 + oldest, y.output(oldest));
            Check.due("between", 1000 + (oldest + values) / 2, y.output((oldest + values) / 2));
            Check.fails("not put out yet", Check.NO_SUCH, () -> y.output(values));
            Check.fails("not kept", Check.NO_SUCH, () -> y.output(oldest - 1));
        }
    }

    /** Promise 15: "0 methods, 1 instructions of all, 2 good methods": none, and all eight. */
    private static void countOfNoneAndAll() {
        CodeJudge x = new CodeJudge();
        int instructions = 0;
        for (int m = 0; m <= 7; m++) {
            x.method(m, 0, 0, 0, 0, 0);
            Check.due("methods", m + 1, x.count(0));
            Check.due("good ones, without the latest", m, x.count(2));
            for (int k = 0; k <= m; k++) {
                x.add(m, Check.RETURN, 0);
                instructions++;
                Check.due("instructions", instructions, x.count(1));
            }
            Check.due("good ones", m + 1, x.count(2));
        }
        x.method(3, 0, 0, 0, 0, 0);
        Check.due("eight still", 8, x.count(0));
        Check.due("without those of 3", instructions - 4, x.count(1));
        Check.due("3 is not good", 7, x.count(2));
        for (int m = 0; m <= 7; m++) {
            x.drop(m);
            Check.due("one less", 7 - m, x.count(0));
        }
        Check.due("no instructions", 0, x.count(1));
        Check.due("none good", 0, x.count(2));
    }

    /** "An object is used for at most 512 calls": the last ones are answered as the first ones. */
    private static void fiveHundredAndTwelveCalls() {
        CodeJudge x = Check.judging("", 0, 0, 1, "CONSTANT 3, OUT, GO 0");
        x.start(0, 0, 0, 0, 0);
        for (int call = 6; call <= 508; call++) {
            Check.due("call " + call, 2000, x.run(2000));
        }
        Check.due("call 509", 503 * 2000, x.state(1));
        Check.due("call 510", 335333, x.state(8));
        Check.due("call 511", 3, x.output(335332));
        Check.fails("call 512", Check.NO_SUCH, () -> x.output(335232));
        CodeJudge y = new CodeJudge();
        for (int m = 4; m <= 7; m++) {
            y.method(m, 0, 0, 0, 0, 0);
            for (int place = 0; place < 120; place++) {
                y.add(m, Check.RETURN, place);
            }
        }
        Check.due("480 instructions", 480, y.count(1));
        Check.due("four good ones", 4, y.count(2));
    }
}
