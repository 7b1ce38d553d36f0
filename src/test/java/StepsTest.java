/**
 * The document's "Terms" of orders and of TO RUN, sentence by sentence: what each order does to its
 * values, what a frame has, and where each trouble begins; each bound from both sides.
 */
public final class StepsTest {
    private static final int MIN = Integer.MIN_VALUE;
    private static final int MAX = Integer.MAX_VALUE;

    public static void main(String[] args) {
        eachTakesAndPutsNoMore();
        sumsWrap();
        quotientsAreTruncated();
        restHasTheSignOfTheFirst();
        dividingWraps();
        newMakesZeros();
        lengthTellsCells();
        getAndPutFirstAndLastCell();
        goGoesToFirstAndLastPlace();
        ifZero();
        ifLess();
        ifSame();
        ifNothing();
        turnDoubleDrop();
        callGivesParametersInOrder();
        callBringsWhatIsReturned();
        outPutsOut();
        startMakesTheFirstFrame();
        eachInstructionIsAStep();
        framesHaveTheirOwn();
        localsAre0AtFirst();
        trouble2();
        trouble3();
        trouble4();
        trouble5();
        trouble6Cells();
        trouble6Arrays();
        trouble6OfThisRunOnly();
        trouble7();
        troubleOfTwoKinds();
        troubleIsNoStepAndDoesNothing();
        troubleEndsARun();
        arraysAreToldByNumbers();
        Check.end("StepsTest");
    }

    /** What is below the values that an instruction takes stays: as many of them, and the same. */
    private static void eachTakesAndPutsNoMore() {
        // Array 0 has 3 cells; * is the place behind the instruction.
        String[][] rows = {{"", "CONSTANT 5", "5"}, {"", "LOAD 0", "8"}, {"6", "STORE 0", ""},
            {"", "LOAD_ARRAY 1", "0"}, {"none", "STORE_ARRAY 2", ""}, {"6 4", "ADD", "10"},
            {"6 4", "SUBTRACT", "2"}, {"6 4", "MULTIPLY", "24"}, {"6 4", "DIVIDE", "1"},
            {"6 4", "REST", "2"}, {"6", "NEW", "1"}, {"array", "LENGTH", "3"},
            {"array 2", "GET", "0"}, {"array 2 9", "PUT", ""}, {"", "GO *", ""},
            {"0", "IF_ZERO *", ""}, {"6", "IF_ZERO *", ""}, {"4 6", "IF_LESS *", ""},
            {"6 4", "IF_LESS *", ""}, {"4 4", "IF_SAME *", ""}, {"6 4", "IF_SAME *", ""},
            {"", "NOTHING", "-1"}, {"none", "IF_NOTHING *", ""}, {"array", "IF_NOTHING *", ""},
            {"6", "DOUBLE", "6 6"}, {"none", "DOUBLE", "-1 -1"}, {"6", "DROP", ""},
            {"6 4", "TURN", "4 6"}, {"none 4", "TURN", "4 -1"}, {"6", "OUT", ""}};
        for (String[] row : rows) {
            String pushed = "CONSTANT 70, CONSTANT 71, " + pushed(row[0]);
            int place = pushed.split(", ").length;
            CodeJudge x = Check.judging("ia", 0, 3, 9,
                    pushed + row[1].replace("*", "" + (place + 1)) + ", GO " + (place + 1));
            x.start(0, 8, 3, 0, 0);
            x.run(place + 1);
            Check.due(row[1] + " goes on", place + 1, x.state(4));
            String[] due = ("70 71 " + row[2]).trim().split(" ");
            for (int k = 0; k < due.length; k++) {
                Check.due(row[0] + " " + row[1] + " at " + k, Integer.parseInt(due[k]),
                        x.value(0, k));
            }
            Check.fails(row[1] + ", no more", Check.NO_SUCH, () -> x.value(0, due.length));
        }
    }

    private static String pushed(String values) {
        StringBuilder text = new StringBuilder();
        for (String value : values.isEmpty() ? new String[0] : values.split(" ")) {
            text.append(value.equals("none") ? "NOTHING"
                    : value.equals("array") ? "LOAD_ARRAY 1" : "CONSTANT " + value).append(", ");
        }
        return text.toString();
    }

    /** A run of a method with two ints, two arrays, that returns an int or nothing, to its end. */
    private static CodeJudge done(int returns, String text, int a, int b, int c, int d) {
        CodeJudge x = Check.judging("iiaa", returns, 6, 6, text);
        x.start(0, a, b, c, d);
        x.run(2000);
        return x;
    }

    private static int of(String order, int a, int b) {
        CodeJudge x = done(1, "LOAD 0, LOAD 1, " + order + ", RETURN", a, b, 0, 0);
        Check.due(order + " ends", 1, x.state(0));
        return x.state(5);
    }

    /** "5 ADD, 6 SUBTRACT, 7 MULTIPLY (wrapping)". */
    private static void sumsWrap() {
        Check.due("MAX - 1 + 1", MAX, of("ADD", MAX - 1, 1));
        Check.due("MAX + 1", MIN, of("ADD", MAX, 1));
        Check.due("MIN + 0", MIN, of("ADD", MIN, 0));
        Check.due("MIN + -1", MAX, of("ADD", MIN, -1));
        Check.due("MIN + MIN", 0, of("ADD", MIN, MIN));
        Check.due("MIN + 1 - 1", MIN, of("SUBTRACT", MIN + 1, 1));
        Check.due("MIN - 1", MAX, of("SUBTRACT", MIN, 1));
        Check.due("MAX - -1", MIN, of("SUBTRACT", MAX, -1));
        Check.due("0 - MIN", MIN, of("SUBTRACT", 0, MIN));
        Check.due("5 - 7, the first less the second", -2, of("SUBTRACT", 5, 7));
        Check.due("46340 squared", 2147395600, of("MULTIPLY", 46340, 46340));
        Check.due("46341 squared", -2147479015, of("MULTIPLY", 46341, 46341));
        Check.due("65536 squared", 0, of("MULTIPLY", 65536, 65536));
        Check.due("MIN * -1", MIN, of("MULTIPLY", MIN, -1));
        Check.due("MAX * -1", -MAX, of("MULTIPLY", MAX, -1));
        Check.due("MAX * MAX", 1, of("MULTIPLY", MAX, MAX));
    }

    /** "8 DIVIDE (truncated)". */
    private static void quotientsAreTruncated() {
        int[][] rows = {{7, 2, 3}, {-7, 2, -3}, {7, -2, -3}, {-7, -2, 3}, {1, 2, 0}, {-1, 2, 0},
            {6, 3, 2}, {-6, 3, -2}, {2, 7, 0}, {0, 5, 0}, {MAX, MIN, 0}, {MIN, MAX, -1},
            {MIN, 1, MIN}, {MIN, MIN, 1}, {MAX, -1, -MAX}};
        for (int[] row : rows) {
            Check.due(row[0] + " / " + row[1], row[2], of("DIVIDE", row[0], row[1]));
        }
    }

    /** "9 REST": what a truncated quotient leaves. */
    private static void restHasTheSignOfTheFirst() {
        int[][] rows = {{7, 2, 1}, {-7, 2, -1}, {7, -2, 1}, {-7, -2, -1}, {1, 2, 1}, {-1, 2, -1},
            {6, 3, 0}, {-6, 3, 0}, {2, 7, 2}, {0, 5, 0}, {MAX, MIN, MAX}, {MIN, MAX, -1},
            {MIN, 1, 0}, {MIN, MIN, 0}, {MAX, -1, 0}};
        for (int[] row : rows) {
            Check.due(row[0] + " % " + row[1], row[2], of("REST", row[0], row[1]));
        }
    }

    /** The one quotient that is no int wraps, too, and is no trouble. */
    private static void dividingWraps() {
        Check.due("MIN / -1", MIN, of("DIVIDE", MIN, -1));
        Check.due("MIN % -1", 0, of("REST", MIN, -1));
        Check.due("MIN + 1 / -1", MAX, of("DIVIDE", MIN + 1, -1));
    }

    /** "10 NEW: int to an array of so many cells, all 0", also where an earlier run had others. */
    private static void newMakesZeros() {
        CodeJudge x = Check.judging("i", 0, 2, 3, "LOAD 0, NEW, STORE_ARRAY 1, "
                + "LOAD_ARRAY 1, CONSTANT 0, CONSTANT 7, PUT, "
                + "LOAD_ARRAY 1, CONSTANT 2, CONSTANT 8, PUT, RETURN");
        for (int turn = 0; turn < 2; turn++) {
            x.start(0, 3, 0, 0, 0);
            x.run(3);
            Check.due("cells", 3, x.cell(0, -1));
            for (int k = 0; k < 3; k++) {
                Check.due("cell " + k, 0, x.cell(0, k));
            }
            x.run(2000);
            Check.due("the first is put", 7, x.cell(0, 0));
            Check.due("the last is put", 8, x.cell(0, 2));
        }
        for (int cells : new int[] {0, 1, 2000}) {
            x.start(0, cells, 0, 0, 0);
            x.run(3);
            Check.due("cells", cells, x.cell(0, -1));
            Check.due("cells of all", cells, x.state(7));
            Check.fails("one more", Check.NO_SUCH, () -> x.cell(0, cells));
        }
        Check.due("the last of 2000", 0, x.cell(0, 1999));
    }

    /** "11 LENGTH: array to int": 0 too. */
    private static void lengthTellsCells() {
        for (int cells : new int[] {0, 1, 399, 400}) {
            CodeJudge x = done(1, "LOAD_ARRAY 2, LENGTH, RETURN", 0, 0, cells, 9);
            Check.due("LENGTH", cells, x.state(5));
        }
        CodeJudge x = done(1, "CONSTANT 2000, NEW, LENGTH, RETURN", 0, 0, 0, 0);
        Check.due("LENGTH of the largest", 2000, x.state(5));
    }

    /** "12 GET: array, int to the cell's int. 13 PUT: ...: the cell becomes the last." */
    private static void getAndPutFirstAndLastCell() {
        for (int k : new int[] {0, 1, 3, 4}) {
            CodeJudge x = done(1, "LOAD_ARRAY 3, LOAD 0, LOAD 1, PUT, LOAD_ARRAY 3, LOAD 0, GET, "
                    + "RETURN", k, MIN, 5, 5);
            Check.due("GET behind PUT " + k, MIN, x.state(5));
            for (int each = 0; each < 5; each++) {
                Check.due("the other array", 0, x.cell(0, each));
                Check.due("cell " + each, each == k ? MIN : 0, x.cell(1, each));
            }
        }
    }

    /** "14 GO: to place v": the first, itself, the last. */
    private static void goGoesToFirstAndLastPlace() {
        CodeJudge x = Check.judging("", 0, 0, 0, "GO 2, GO 0, GO 4, RETURN, GO 1");
        x.start(0, 0, 0, 0, 0);
        int[] due = {2, 4, 1, 0, 2};
        for (int place : due) {
            x.run(1);
            Check.due("place", place, x.state(4));
        }
        x.patch(0, 0, 0);
        x.start(0, 0, 0, 0, 0);
        Check.due("GO to itself", 2000, x.run(2000));
        Check.due("is still there", 0, x.state(4));
    }

    /** Where an IF with these values leads: true to its place, false to the next. */
    private static boolean goes(String values, String order, int a, int b) {
        int place = values.split(", ").length + 3;
        CodeJudge x = done(1, values + ", " + order + " " + place
                + ", CONSTANT 10, RETURN, CONSTANT 20, RETURN", a, b, 0, 0);
        Check.due(order + " ends", 1, x.state(0));
        return x.state(5) == 20;
    }

    /** "15 IF ZERO: int: to place v, if it is 0." */
    private static void ifZero() {
        for (int a : new int[] {0, 1, -1, MIN, MAX}) {
            Check.due("IF ZERO " + a, a == 0, goes("LOAD 0", "IF_ZERO", a, 1));
        }
    }

    /** "16 IF LESS ...: int, int: likewise": if the first is less than the second. */
    private static void ifLess() {
        int[][] rows = {{0, 1, 1}, {1, 1, 0}, {2, 1, 0}, {-1, 0, 1}, {0, -1, 0}, {MIN, MAX, 1},
            {MAX, MIN, 0}, {MIN, MIN, 0}, {MIN, MIN + 1, 1}, {MAX, MAX, 0}, {MAX - 1, MAX, 1},
            {MIN, 1, 1}, {1, MIN, 0}};
        for (int[] row : rows) {
            Check.due(row[0] + " < " + row[1], row[2] == 1,
                    goes("LOAD 0, LOAD 1", "IF_LESS", row[0], row[1]));
        }
    }

    /** "17 IF SAME: int, int: likewise." */
    private static void ifSame() {
        int[][] rows = {{0, 0, 1}, {0, 1, 0}, {1, 0, 0}, {MIN, MIN, 1}, {MIN, MAX, 0},
            {MAX, MAX, 1}, {-1, -1, 1}, {-1, 1, 0}, {127, 127, 1}, {128, 128, 1}, {0, MIN, 0}};
        for (int[] row : rows) {
            Check.due(row[0] + " = " + row[1], row[2] == 1,
                    goes("LOAD 0, LOAD 1", "IF_SAME", row[0], row[1]));
        }
    }

    /** "18 NOTHING: - to an array that is none. 19 IF NOTHING: array: likewise." */
    private static void ifNothing() {
        Check.due("none", true, goes("NOTHING", "IF_NOTHING", 0, 0));
        Check.due("array 0, without cells", false, goes("LOAD_ARRAY 2", "IF_NOTHING", 0, 0));
        Check.due("array 1", false, goes("LOAD_ARRAY 3", "IF_NOTHING", 0, 0));
        Check.due("none from a local", true,
                goes("NOTHING, STORE_ARRAY 2, LOAD_ARRAY 2", "IF_NOTHING", 0, 0));
    }

    /** "20 DOUBLE: any to the same twice. 21 DROP: any. 22 TURN: any, any to the second, ...". */
    private static void turnDoubleDrop() {
        CodeJudge x = Check.judging("iaa", 0, 3, 4,
                "LOAD 0, LOAD_ARRAY 2, TURN, DOUBLE, DROP, DROP, DOUBLE, TURN, DROP, DROP, RETURN");
        x.start(0, MIN, 0, 0, 0);
        int[][] due = {{MIN}, {MIN, 1}, {1, MIN}, {1, MIN, MIN}, {1, MIN}, {1}, {1, 1}, {1, 1}, {1},
            {}};
        for (int[] stack : due) {
            x.run(1);
            for (int k = 0; k < stack.length; k++) {
                Check.due("stack " + k, stack[k], x.value(0, k));
            }
            Check.fails("no more", Check.NO_SUCH, () -> x.value(0, stack.length));
        }
    }

    /** "23 CALL: the parameters of method v ...": none, and four, the last one the uppermost. */
    private static void callGivesParametersInOrder() {
        CodeJudge x = Check.judging("", 0, 0, 6, "CONSTANT 9, CONSTANT 1, NOTHING, CONSTANT 3, "
                + "CONSTANT 0, NEW, CALL 7, DROP, RETURN");
        x.method(7, 4, 10, 0, 5, 0);
        Check.write(x, 7, "CALL 6, RETURN");
        x.method(6, 0, 0, 0, 1, 0);
        Check.write(x, 6, "RETURN");
        x.start(0, 0, 0, 0, 0);
        x.run(7);
        int[] due = {1, -1, 3, 0, 0};
        for (int k = 0; k < due.length; k++) {
            Check.due("local " + k, due[k], x.value(1, k));
        }
        x.run(1);
        Check.due("frames", 3, x.state(2));
        Check.due("a local, without parameters", 0, x.value(1, 0));
        x.run(2);
        Check.due("one frame again", 1, x.state(2));
        Check.due("what was below", 9, x.value(0, 0));
        Check.fails("nothing else", Check.NO_SUCH, () -> x.value(0, 1));
    }

    /** "... to what it returns. 24 RETURN: what the method returns." */
    private static void callBringsWhatIsReturned() {
        String[] returning = {"RETURN", "CONSTANT -8, RETURN", "CONSTANT 0, NEW, RETURN"};
        int[] due = {-1, -8, 0};
        for (int returns = 0; returns <= 2; returns++) {
            CodeJudge x = Check.judging("", 0, 0, 2, "CONSTANT 5, CALL 1, GO 2");
            x.method(1, 0, 0, returns, 0, 1);
            Check.write(x, 1, returning[returns]);
            x.start(0, 0, 0, 0, 0);
            x.run(3 + returns);
            Check.due("behind the call", 2, x.state(4));
            Check.due("what was below", 5, x.value(0, 0));
            if (returns == 0) {
                Check.fails("nothing returned", Check.NO_SUCH, () -> x.value(0, 1));
            } else {
                Check.due("returned", due[returns], x.value(0, 1));
                Check.fails("and no more", Check.NO_SUCH, () -> x.value(0, 2));
            }
        }
    }

    /** "25 OUT: int, which is put out." */
    private static void outPutsOut() {
        CodeJudge x = done(0, "LOAD 0, OUT, LOAD 1, OUT, RETURN", MIN, MAX, 0, 0);
        Check.due("two values", 2, x.state(8));
        Check.due("the first", MIN, x.output(0));
        Check.due("the second", MAX, x.output(1));
    }

    /** "a START makes the first FRAME ...; a parameter that is an array is a new one ...". */
    private static void startMakesTheFirstFrame() {
        CodeJudge x = Check.judging("aaia", 0, 4, 0, "RETURN");
        x.start(0, 0, 400, -1, 1);
        Check.due("one frame", 1, x.state(2));
        Check.due("its place", 0, x.state(4));
        int[] due = {0, 1, -1, 2};
        for (int k = 0; k < due.length; k++) {
            Check.due("parameter " + k, due[k], x.value(1, k));
        }
        int[] cells = {0, 400, 1};
        for (int array = 0; array < cells.length; array++) {
            Check.due("cells of " + array, cells[array], x.cell(array, -1));
        }
        Check.due("cells of all", 401, x.state(7));
        x.start(0, 1, 2, 3, 4);
        Check.due("new ones for a new run", 3, x.state(6));
        Check.due("with their own cells", 7, x.state(7));
    }

    /** "Each instruction is a STEP": CALL and RETURN, GO and an IF too. */
    private static void eachInstructionIsAStep() {
        CodeJudge x = Check.judging("", 0, 0, 1,
                "CALL 1, CONSTANT 0, IF_ZERO 4, RETURN, CONSTANT 1, IF_ZERO 3, GO 3");
        x.method(1, 0, 0, 0, 0, 0);
        Check.write(x, 1, "RETURN");
        x.start(0, 0, 0, 0, 0);
        for (int step = 1; step <= 8; step++) {
            Check.due("it runs", 0, x.state(0));
            Check.due("one", 1, x.run(1));
            Check.due("steps", step, x.state(1));
        }
        Check.due("ended", 1, x.state(0));
        Check.due("no more", 0, x.run(1));
        Check.due("steps at the end", 8, x.state(1));
    }

    /** "A frame has its own locals ... and stack." */
    private static void framesHaveTheirOwn() {
        CodeJudge x = Check.judging("i", 0, 2, 3,
                "CONSTANT 70, LOAD 0, STORE 1, LOAD 0, CONSTANT 1, ADD, CALL 0, DROP, RETURN");
        x.start(0, 0, 0, 0, 0);
        for (int depth = 0; depth < 50; depth++) {
            Check.due("frames", depth + 1, x.state(2));
            Check.due("parameter", depth, x.value(1, 0));
            Check.due("its own local, not yet", 0, x.value(1, 1));
            Check.fails("its own stack", Check.NO_SUCH, () -> x.value(0, 0));
            x.run(4);
            Check.due("its own local", depth, x.value(1, 1));
            Check.due("on its own stack", 70, x.value(0, 0));
            x.run(3);
        }
        Check.due("no 51st", 7, x.state(0));
    }

    /** "(0 at first, but for parameters)": also where an earlier frame or run had others. */
    private static void localsAre0AtFirst() {
        CodeJudge x = Check.judging("", 0, 10, 1, "CALL 1, CALL 1, RETURN");
        x.method(1, 0, 0, 0, 10, 1);
        for (int k = 0; k < 10; k++) {
            Check.write(x, 1, "CONSTANT " + (k + 1) + ", STORE " + k);
        }
        Check.write(x, 1, "RETURN");
        for (int first : new int[] {0, 1, 1}) {
            x.start(first, 0, 0, 0, 0);
            for (int k = 0; k < 10; k++) {
                Check.due("first frame, local " + k, 0, x.value(1, k));
            }
            x.run(first == 0 ? 23 : 0);
            for (int k = 0; k < 10; k++) {
                Check.due("called again, local " + k, 0, x.value(1, k));
            }
            x.run(20);
            Check.due("the last local is put", 10, x.value(1, 9));
        }
    }

    /** A run with two ints and two arrays that ends by itself, or by the trouble due. */
    private static void ends(int due, String text, int a, int b, int c, int d) {
        CodeJudge x = done(0, text + ", RETURN", a, b, c, d);
        Check.due(text + " with " + a + ", " + b + ", " + c + ", " + d, due, x.state(0));
    }

    /** "2 dividing by 0". */
    private static void trouble2() {
        for (String order : new String[] {"DIVIDE", "REST"}) {
            for (int a : new int[] {0, 1, -1, MIN, MAX}) {
                for (int b : new int[] {0, 1, -1, MIN, MAX}) {
                    ends(b == 0 ? 2 : 1, "LOAD 0, LOAD 1, " + order + ", DROP", a, b, 0, 0);
                }
            }
        }
        ends(1, "LOAD 0, LOAD 1, MULTIPLY, DROP", 5, 0, 0, 0);
    }

    /** "3 an array that is none". */
    private static void trouble3() {
        ends(3, "NOTHING, LENGTH, DROP", 0, 0, 1, 0);
        ends(1, "LOAD_ARRAY 2, LENGTH, DROP", 0, 0, 0, 0);
        ends(3, "NOTHING, CONSTANT 0, GET, DROP", 0, 0, 1, 0);
        ends(1, "LOAD_ARRAY 2, CONSTANT 0, GET, DROP", 0, 0, 1, 0);
        ends(3, "NOTHING, CONSTANT 0, CONSTANT 0, PUT", 0, 0, 1, 0);
        ends(1, "LOAD_ARRAY 2, CONSTANT 0, CONSTANT 0, PUT", 0, 0, 1, 0);
        ends(1, "NOTHING, DOUBLE, TURN, DROP, STORE_ARRAY 4, LOAD_ARRAY 4, IF_NOTHING 7", 0, 0, 0,
                0);
    }

    /** "4 a cell that is not there". */
    private static void trouble4() {
        for (int cells : new int[] {0, 1, 3, 400}) {
            for (int k : new int[] {MIN, -1, 0, cells - 1, cells, cells + 1, MAX}) {
                int due = k >= 0 && k < cells ? 1 : 4;
                // The other array has room behind and ahead of these cells.
                ends(due, "LOAD_ARRAY 2, LOAD 0, GET, DROP", k, 0, cells, 400);
                ends(due, "LOAD_ARRAY 3, LOAD 0, GET, DROP", k, 0, 400, cells);
                ends(due, "LOAD_ARRAY 2, LOAD 0, CONSTANT 5, PUT", k, 0, cells, 400);
                ends(due, "LOAD_ARRAY 3, LOAD 0, CONSTANT 5, PUT", k, 0, 400, cells);
            }
        }
    }

    /** "5 an array of fewer than 0 cells". */
    private static void trouble5() {
        for (int cells : new int[] {MIN, -2, -1, 0, 1}) {
            ends(cells < 0 ? 5 : 1, "LOAD 0, NEW, DROP", cells, 0, 0, 0);
        }
    }

    /** "6 more than 2000 cells of all arrays of the run": with the parameters, dropped ones too. */
    private static void trouble6Cells() {
        ends(1, "LOAD 0, NEW, DROP", 2000, 0, 0, 0);
        ends(6, "LOAD 0, NEW, DROP", 2001, 0, 0, 0);
        ends(6, "LOAD 0, NEW, DROP", MAX, 0, 0, 0);
        ends(1, "LOAD 0, NEW, DROP", 1200, 0, 400, 400);
        ends(6, "LOAD 0, NEW, DROP", 1201, 0, 400, 400);
        ends(6, "LOAD 0, NEW, DROP", MAX, 0, 400, 400);
        ends(1, "LOAD 0, NEW, DROP, LOAD 1, NEW, DROP", 1999, 1, 0, 0);
        ends(6, "LOAD 0, NEW, DROP, LOAD 1, NEW, DROP", 1999, 2, 0, 0);
        ends(1, "LOAD 0, NEW, DROP, LOAD 1, NEW, DROP", 2000, 0, 0, 0);
        ends(6, "LOAD 0, NEW, DROP, LOAD 1, NEW, DROP", 2000, 1, 0, 0);
        ends(6, "LOAD 0, NEW, DROP, LOAD 1, NEW, DROP", 2000, MAX, 0, 0);
    }

    /** "or more than 200 arrays": with the parameters, those without cells too. */
    private static void trouble6Arrays() {
        String loop = "LOAD 0, IF_ZERO 9, CONSTANT 0, NEW, DROP, LOAD 0, CONSTANT 1, SUBTRACT, "
                + "GO 10, RETURN, STORE 0, GO 0";
        for (int more : new int[] {197, 198, 199}) {
            CodeJudge x = Check.judging("iiaa", 0, 4, 2, loop);
            x.start(0, more, 0, 0, 0);
            x.run(2000);
            x.run(2000);
            Check.due("two and " + more + " arrays", more == 199 ? 6 : 1, x.state(0));
            Check.due("there are", Math.min(200, more + 2), x.state(6));
            Check.due("without cells", 0, x.state(7));
        }
    }

    /** "of the run": those of an earlier one do not count. */
    private static void trouble6OfThisRunOnly() {
        CodeJudge x = Check.judging("aa", 0, 2, 1, "CONSTANT 1200, NEW, DROP, CONSTANT 0, NEW, "
                + "DROP, GO 3");
        for (int turn = 0; turn < 3; turn++) {
            x.start(0, 400, 400, 0, 0);
            Check.due("until the 201st", 3 + 197 * 4 + 1, x.run(2000));
            Check.due("trouble", 6, x.state(0));
            Check.due("arrays", 200, x.state(6));
            Check.due("cells", 2000, x.state(7));
        }
    }

    /** "7 more than 50 frames". */
    private static void trouble7() {
        CodeJudge x = Check.judging("i", 0, 1, 2,
                "LOAD 0, IF_ZERO 6, LOAD 0, CONSTANT 1, SUBTRACT, CALL 0, RETURN");
        for (int turn = 0; turn < 2; turn++) {
            x.start(0, 48, 0, 0, 0);
            x.run(2000);
            Check.due("49 frames", 1, x.state(0));
            x.start(0, 49, 0, 0, 0);
            x.run(49 * 6);
            Check.due("50 frames", 50, x.state(2));
            Check.due("run", 0, x.state(0));
            x.run(2000);
            Check.due("and end", 1, x.state(0));
            x.start(0, 50, 0, 0, 0);
            Check.due("as far as the 51st", 49 * 6 + 5, x.run(2000));
            Check.due("trouble", 7, x.state(0));
            Check.due("50 frames stay", 50, x.state(2));
            Check.due("at the CALL", 5, x.state(4));
            Check.due("which took nothing", 0, x.value(0, 0));
            Check.due("steps", 49 * 6 + 5, x.state(1));
        }
    }

    /** Where an instruction would have two troubles, the one of the lower number is told. */
    private static void troubleOfTwoKinds() {
        ends(3, "NOTHING, CONSTANT -1, GET, DROP", 0, 0, 0, 0);
        ends(3, "NOTHING, CONSTANT 5, CONSTANT 0, PUT", 0, 0, 0, 0);
        CodeJudge x = Check.judging("i", 0, 1, 2, "LOAD 0, CONSTANT 1, SUBTRACT, STORE 0, "
                + "CONSTANT 0, NEW, DROP, LOAD 0, IF_ZERO 10, GO 0, CONSTANT -1, NEW, DROP, "
                + "RETURN");
        x.start(0, 200, 0, 0, 0);
        x.run(2000);
        Check.due("200 arrays", 200, x.state(6));
        Check.due("no trouble yet", 0, x.state(0));
        Check.due("one more, of fewer than 0 cells", 0, x.run(1));
        Check.due("is told by the cells", 5, x.state(0));
    }

    /** "the instruction with which it comes is no step, and does nothing". */
    private static void troubleIsNoStepAndDoesNothing() {
        String[][] rows = {{"2", "CONSTANT 6, CONSTANT 0, DIVIDE, DROP", "6 0"},
            {"2", "CONSTANT 6, CONSTANT 0, REST, DROP", "6 0"},
            {"3", "NOTHING, LENGTH, DROP", "-1"}, {"3", "NOTHING, CONSTANT 3, GET, DROP", "-1 3"},
            {"3", "NOTHING, CONSTANT 3, CONSTANT 4, PUT", "-1 3 4"},
            {"4", "LOAD_ARRAY 3, CONSTANT 2, GET, DROP", "1 2"},
            {"4", "LOAD_ARRAY 2, CONSTANT -1, CONSTANT 4, PUT", "0 -1 4"},
            {"4", "LOAD_ARRAY 2, CONSTANT 2, CONSTANT 4, PUT", "0 2 4"},
            {"5", "CONSTANT -1, NEW, DROP", "-1"}, {"6", "CONSTANT 1997, NEW, DROP", "1997"}};
        for (String[] row : rows) {
            CodeJudge x = Check.judging("iiaa", 0, 4, 3, row[1] + ", RETURN");
            String[] stack = row[2].split(" ");
            x.start(0, 8, 9, 2, 2);
            Check.due(row[1] + ": steps", stack.length, x.run(stack.length));
            Check.due(row[1] + ": not come to it yet", 0, x.state(0));
            Check.due(row[1] + ": run 0", 0, x.run(0));
            Check.due(row[1] + ": which does not come to it", 0, x.state(0));
            Check.due(row[1] + ": no step", 0, x.run(1));
            int[] due = {Integer.parseInt(row[0]), stack.length, 1, 0, stack.length, 0, 2, 4, 0};
            for (int what = 0; what < due.length; what++) {
                Check.due(row[1] + ": state " + what, due[what], x.state(what));
            }
            for (int k = 0; k < stack.length; k++) {
                Check.due(row[1] + ": stack " + k, Integer.parseInt(stack[k]), x.value(0, k));
            }
            Check.fails(row[1] + ": no more", Check.NO_SUCH, () -> x.value(0, stack.length));
            int[] locals = {8, 9, 0, 1};
            for (int k = 0; k < locals.length; k++) {
                Check.due(row[1] + ": local " + k, locals[k], x.value(1, k));
                Check.due(row[1] + ": cell", 0, x.cell(k / 2, k % 2));
            }
        }
    }

    /** "TROUBLE ends a run": no step comes behind it. */
    private static void troubleEndsARun() {
        CodeJudge x = done(0, "CONSTANT 1, OUT, CONSTANT -1, NEW, DROP, CONSTANT 2, OUT, RETURN", 0,
                0, 0, 0);
        for (int n : new int[] {0, 1, 2000}) {
            Check.due("run " + n, 0, x.run(n));
            Check.due("the trouble stays", 5, x.state(0));
            Check.due("its steps stay", 3, x.state(1));
            Check.due("its place stays", 3, x.state(4));
            Check.due("what was put out stays", 1, x.state(8));
        }
        x.start(0, 0, 0, 0, 0);
        Check.due("a new run", 0, x.state(0));
    }

    /** "ARRAYS are told by numbers 0, 1, .. , in the order in which they were made (-1: none)." */
    private static void arraysAreToldByNumbers() {
        CodeJudge x = Check.judging("iiaa", 0, 6, 1, "CONSTANT 3, NEW, STORE_ARRAY 5, CONSTANT 0, "
                + "NEW, STORE_ARRAY 4, CALL 1, GO 7");
        x.method(1, 0, 0, 2, 0, 1);
        Check.write(x, 1, "CONSTANT 5, NEW, DROP, CONSTANT 6, NEW, RETURN");
        x.start(0, 0, 0, 1, 2);
        x.run(13);
        Check.due("arrays", 6, x.state(6));
        int[] cells = {1, 2, 3, 0, 5, 6};
        for (int array = 0; array < cells.length; array++) {
            Check.due("cells of " + array, cells[array], x.cell(array, -1));
        }
        int[] locals = {0, 0, 0, 1, 3, 2};
        for (int k = 0; k < locals.length; k++) {
            Check.due("local " + k, locals[k], x.value(1, k));
        }
        Check.due("the called one's second", 5, x.value(0, 0));
        Check.fails("none has the number -1", Check.NO_SUCH, () -> x.cell(-1, -1));
    }
}
