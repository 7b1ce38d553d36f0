/**
 * The document's "Terms" up to GOOD, sentence by sentence: what a method has, what each order takes
 * and puts, when an instruction can be done, and when a method is good; each bound from both sides.
 */
public final class TermsTest {
    private static final int MIN = Integer.MIN_VALUE;
    private static final int MAX = Integer.MAX_VALUE;

    /** An instruction, what it takes ("i": an int, "a": an array) and what it puts. */
    private static final String[][] INSTRUCTIONS = {
        {"CONSTANT 5", "", "i"}, {"LOAD 0", "", "i"}, {"STORE 2", "i", ""},
        {"LOAD_ARRAY 1", "", "a"}, {"STORE_ARRAY 2", "a", ""}, {"ADD", "ii", "i"},
        {"SUBTRACT", "ii", "i"}, {"MULTIPLY", "ii", "i"}, {"DIVIDE", "ii", "i"},
        {"REST", "ii", "i"}, {"NEW", "i", "a"}, {"LENGTH", "a", "i"}, {"GET", "ai", "i"},
        {"PUT", "aii", ""}, {"GO *", "", ""}, {"IF_ZERO *", "i", ""}, {"IF_LESS *", "ii", ""},
        {"IF_SAME *", "ii", ""}, {"NOTHING", "", "a"}, {"IF_NOTHING *", "a", ""},
        {"DOUBLE", "i", "ii"}, {"DOUBLE", "a", "aa"}, {"DROP", "i", ""}, {"DROP", "a", ""},
        {"TURN", "ii", "ii"}, {"TURN", "ia", "ai"}, {"TURN", "ai", "ia"}, {"TURN", "aa", "aa"},
        {"CALL 1", "", ""}, {"CALL 2", "iaia", "i"}, {"CALL 3", "aii", "a"}, {"OUT", "i", ""},
    };

    public static void main(String[] args) {
        methodsAre0To7();
        parametersAre0To4();
        localsAreParametersTo10();
        parametersAreTheFirstLocals();
        limitIs0To15();
        returnsAre0To2();
        codeIsAtMost120();
        numbersAreAny();
        takenIsThere();
        takenIsAsTold();
        putIsAsTold();
        nextPlaceComes();
        neitherBehindGoNorReturn();
        waysBeginAtPlace0();
        waysComeBackToPlace0();
        localLoadedIsAsTold();
        localIsThere();
        placeIsThere();
        methodIsThere();
        calledNeedNotBeGood();
        stackIsNotAboveTheLimit();
        sameHeightAtTheLimit();
        onlyBehindCountsTheLimit();
        returnLeavesNothing();
        oneBehindTheLast();
        noWayNoMatter();
        eachTurnOfALoopIsAWay();
        waysMeetWithTheSameHeight();
        waysMeetWithTheSameTypes();
        waysMayMeetWithOtherLocals();
        Check.end("TermsTest");
    }

    private static boolean isGood(String parameters, int returns, int locals, int limit,
            String text) {
        return Check.judging(parameters, returns, locals, limit, text).good(0);
    }

    /** "METHODS are 0 .. 7; each is there, or not." */
    private static void methodsAre0To7() {
        for (int m = -1; m <= 8; m++) {
            int each = m;
            CodeJudge x = new CodeJudge();
            Check.fails("not there yet, " + m, Check.NO_SUCH, () -> x.good(each));
            if (m < 0 || m > 7) {
                Check.fails("method " + m, Check.NO_SUCH, () -> x.method(each, 0, 0, 0, 0, 0));
                continue;
            }
            x.method(m, 0, 0, 0, 0, 0);
            for (int other = 0; other <= 7; other++) {
                int another = other;
                if (other == m) {
                    Check.due("there, " + m, 1, x.add(m, Check.RETURN, 0));
                } else {
                    Check.fails(other + " beside " + m, Check.NO_SUCH, () -> x.good(another));
                }
            }
        }
    }

    /** "It has PARAMETERS (0 .. 4), some of them arrays". */
    private static void parametersAre0To4() {
        for (int parameters = -1; parameters <= 5; parameters++) {
            for (int arrays = 0; arrays <= 32; arrays++) {
                int p = parameters;
                int a = arrays;
                CodeJudge x = new CodeJudge();
                if (p >= 0 && p <= 4 && a < 1 << p) {
                    Check.due("method", false, x.method(0, p, a, 0, 10, 0));
                } else {
                    Check.fails("parameters " + p + ", arrays " + a, Check.ARGUMENT,
                            () -> x.method(0, p, a, 0, 10, 0));
                }
            }
        }
    }

    /** "LOCALS 0, 1, .. (as many as it has parameters at least, 10 at most". */
    private static void localsAreParametersTo10() {
        for (int parameters = 0; parameters <= 4; parameters++) {
            for (int locals = -1; locals <= 12; locals++) {
                int p = parameters;
                int n = locals;
                CodeJudge x = new CodeJudge();
                if (n < p || n > 10) {
                    Check.fails(n + " locals of " + p, Check.ARGUMENT,
                            () -> x.method(0, p, 0, 0, n, 0));
                    continue;
                }
                x.method(0, p, 0, 0, n, 0);
                Check.write(x, 0, "RETURN");
                for (int k = 0; k < n; k++) {
                    Check.due("local " + k, k < p ? 1 : 0, x.type(0, 0, 1, k));
                }
                Check.fails("local " + n, Check.NO_SUCH, () -> x.type(0, 0, 1, n));
            }
        }
    }

    /** "the parameters are the first ones); ..." */
    private static void parametersAreTheFirstLocals() {
        for (int arrays = 0; arrays < 16; arrays++) {
            CodeJudge x = new CodeJudge();
            x.method(0, 4, arrays, 0, 10, 0);
            Check.write(x, 0, "RETURN");
            for (int k = 0; k < 10; k++) {
                int type = (arrays >> k & 1) != 0 ? 2 : 1;
                Check.due("local " + k + ", arrays " + arrays, k < 4 ? type : 0,
                        x.type(0, 0, 1, k));
            }
        }
    }

    /** "a LIMIT of its stack (0 .. 15)". */
    private static void limitIs0To15() {
        for (int limit = -1; limit <= 16; limit++) {
            int each = limit;
            if (limit < 0 || limit > 15) {
                Check.fails("limit " + limit, Check.ARGUMENT,
                        () -> new CodeJudge().method(0, 0, 0, 0, 0, each));
                continue;
            }
            Check.due("at limit " + limit, true,
                    isGood("", 0, 0, limit, pushed("i".repeat(limit)) + "GO " + limit));
            Check.due("above limit " + limit, false,
                    isGood("", 0, 0, limit, pushed("i".repeat(limit + 1)) + "GO " + (limit + 1)));
        }
    }

    /** "it RETURNS 0 nothing, 1 an int, 2 an array". */
    private static void returnsAre0To2() {
        String[] stacks = {"", "i", "a"};
        for (int returns = -1; returns <= 3; returns++) {
            int each = returns;
            if (returns < 0 || returns > 2) {
                Check.fails("returns " + returns, Check.ARGUMENT,
                        () -> new CodeJudge().method(0, 0, 0, each, 0, 0));
                continue;
            }
            for (int stack = 0; stack <= 2; stack++) {
                Check.due("returns " + returns + " with " + stacks[stack], stack == returns,
                        isGood("", returns, 0, 1, pushed(stacks[stack]) + "RETURN"));
            }
        }
    }

    /** "and CODE, at most 120 INSTRUCTIONS at places 0, 1, .. , an order and a number v each." */
    private static void codeIsAtMost120() {
        CodeJudge x = new CodeJudge();
        x.method(0, 0, 0, 0, 0, 0);
        Check.write(x, 0, "GO 119");
        for (int place = 1; place < 119; place++) {
            x.add(0, Check.GO, place);
        }
        Check.due("place 119 is not there yet", false, x.good(0));
        Check.due("119 instructions", 119, x.count(1));
        Check.due("the 120th", 120, x.add(0, Check.RETURN, 0));
        Check.due("place 119 is there", true, x.good(0));
        Check.due("a way comes to it", 0, x.height(0, 119));
        Check.fails("a 121st", Check.STATE, () -> x.add(0, Check.RETURN, 0));
        Check.fails("place 120", Check.NO_SUCH, () -> x.height(0, 120));
        x.patch(0, 0, 120);
        Check.due("GO to place 120", false, x.good(0));
        x.patch(0, 0, 119);
        x.start(0, 0, 0, 0, 0);
        Check.due("GO and RETURN", 2, x.run(2000));
    }

    /** "0 CONSTANT: - to v": any v, and orders that name nothing do not look at theirs. */
    private static void numbersAreAny() {
        for (int v : new int[] {0, 1, -1, 120, MIN, MAX}) {
            CodeJudge x = Check.judging("", 1, 0, 2, "CONSTANT " + v + ", RETURN " + v);
            x.start(0, 0, 0, 0, 0);
            x.run(2);
            Check.due("CONSTANT", v, x.state(5));
            for (String[] row : INSTRUCTIONS) {
                if (!row[0].contains(" ")) {
                    Check.due(row[0] + " " + v, true, canBeDone(row[1], row[0] + " " + v));
                }
            }
        }
    }

    /** Code that puts ints and arrays on the stack, to be followed by more. */
    private static String pushed(String types) {
        return types.replace("i", "CONSTANT 0, ").replace("a", "NOTHING, ");
    }

    /** A method 0 with that stack, an instruction (* is the place behind it) and an endless GO. */
    private static CodeJudge behind(String stack, String instruction, int limit) {
        int next = stack.length() + 1;
        CodeJudge x = Check.judging("ia", 0, 3, limit,
                pushed(stack) + instruction.replace("*", "" + next) + ", GO " + next);
        x.method(1, 0, 0, 0, 0, 0);
        x.method(2, 4, 10, 1, 4, 0);
        x.method(3, 3, 1, 2, 3, 0);
        return x;
    }

    private static boolean canBeDone(String stack, String instruction) {
        return behind(stack, instruction, 15).good(0);
    }

    /** "what it takes is there": all of it, and not with the lowest missing. */
    private static void takenIsThere() {
        for (String[] row : INSTRUCTIONS) {
            Check.due(row[0] + " with " + row[1], true, canBeDone(row[1], row[0]));
            for (int missing = 1; missing <= row[1].length(); missing++) {
                String stack = row[1].substring(missing);
                Check.due(row[0] + " with " + stack, false, canBeDone(stack, row[0]));
            }
        }
    }

    /** "an int or an array as told": each place of the stack, the others being right. */
    private static void takenIsAsTold() {
        for (String[] row : INSTRUCTIONS) {
            boolean any = row[0].equals("DOUBLE") || row[0].equals("DROP")
                    || row[0].equals("TURN");
            for (int k = 0; k < row[1].length(); k++) {
                char other = row[1].charAt(k) == 'i' ? 'a' : 'i';
                String stack = row[1].substring(0, k) + other + row[1].substring(k + 1);
                Check.due(row[0] + " with " + stack, any, canBeDone(stack, row[0]));
                Check.due(row[0] + " above one, with " + stack, any,
                        canBeDone("i" + stack, row[0]));
            }
            Check.due(row[0] + " above an int", true, canBeDone("i" + row[1], row[0]));
            Check.due(row[0] + " above an array", true, canBeDone("a" + row[1], row[0]));
        }
    }

    /** "ORDERS, with what they take from the stack (the last one is the uppermost) and put". */
    private static void putIsAsTold() {
        for (String[] row : INSTRUCTIONS) {
            for (String below : new String[] {"", "i", "a", "aia", "iaiaiaiaia"}) {
                CodeJudge x = behind(below + row[1], row[0], 15);
                int place = below.length() + row[1].length();
                needStack(row[0] + " ahead", x, place, below + row[1]);
                needStack(row[0] + " behind", x, place + 1, below + row[2]);
            }
        }
    }

    private static void needStack(String what, CodeJudge x, int place, String due) {
        Check.due(what, due.length(), x.height(0, place));
        for (int k = 0; k < due.length(); k++) {
            Check.due(what + " at " + k, due.charAt(k) == 'a' ? 2 : 1, x.type(0, place, 0, k));
        }
        Check.due(what + ", no more", -1, x.type(0, place, 0, due.length()));
    }

    /** "Behind an instruction the next place comes ...; with an IF either." */
    private static void nextPlaceComes() {
        for (String[] row : INSTRUCTIONS) {
            int size = row[1].length();
            boolean names = row[0].contains("*");
            // The instruction, GO to itself, and a GO to itself that only an IF or a GO leads to.
            CodeJudge x = behind(row[1], row[0].replace("*", "" + (size + 2)), 15);
            x.add(0, Check.GO, size + 2);
            boolean isGo = row[0].startsWith("GO");
            Check.due(row[0] + ": next", isGo ? -1 : row[2].length(), x.height(0, size + 1));
            Check.due(row[0] + ": place v", names ? row[2].length() : -1, x.height(0, size + 2));
        }
    }

    /** "... but for GO and RETURN". */
    private static void neitherBehindGoNorReturn() {
        CodeJudge x = Check.judging("", 0, 0, 0, "GO 2, ADD, RETURN, ADD");
        Check.due("what is behind them can not be done", true, x.good(0));
        Check.due("behind GO", -1, x.height(0, 1));
        Check.due("where GO goes", 0, x.height(0, 2));
        Check.due("behind RETURN", -1, x.height(0, 3));
        Check.due("GO as the last", true, isGood("", 0, 0, 0, "GO 0"));
        Check.due("RETURN as the last", true, isGood("", 0, 0, 0, "RETURN"));
    }

    /** "A WAY of a method begins at place 0 with nothing on the stack, its parameters and ...". */
    private static void waysBeginAtPlace0() {
        CodeJudge x = Check.judging("iaai", 0, 6, 15, "RETURN");
        Check.due("nothing on the stack", 0, x.height(0, 0));
        Check.due("nothing lowest", -1, x.type(0, 0, 0, 0));
        int[] due = {1, 2, 2, 1, 0, 0};
        for (int k = 0; k < due.length; k++) {
            Check.due("local " + k, due[k], x.type(0, 0, 1, k));
            Check.due("LOAD " + k, due[k] == 1, isGood("iaai", 0, 6, 1, "LOAD " + k + ", GO 1"));
            Check.due("LOAD_ARRAY " + k, due[k] == 2,
                    isGood("iaai", 0, 6, 1, "LOAD_ARRAY " + k + ", GO 1"));
        }
    }

    /** Place 0 is also one where two ways can come: the one that begins, and one that goes back. */
    private static void waysComeBackToPlace0() {
        Check.due("with nothing", true, isGood("", 0, 0, 1, "CONSTANT 0, DROP, GO 0"));
        Check.due("with an int", false, isGood("", 0, 0, 9, "CONSTANT 0, GO 0"));
        Check.due("by an IF, with an int", false,
                isGood("", 0, 0, 9, "CONSTANT 0, CONSTANT 0, IF_ZERO 0, GO 3"));
        CodeJudge x = Check.judging("i", 0, 2, 1,
                "NOTHING, STORE_ARRAY 0, CONSTANT 0, STORE 1, GO 0");
        Check.due("an array behind an int", 0, x.type(0, 0, 1, 0));
        Check.due("an int behind nothing", 0, x.type(0, 0, 1, 1));
    }

    /** "a local that it loads has an int, or an array, as told". */
    private static void localLoadedIsAsTold() {
        String[] given = {"CONSTANT 0, STORE 1, ", "NOTHING, STORE_ARRAY 1, ", ""};
        for (int before = 0; before < 3; before++) {
            String last = given[before];
            int at = before == 2 ? 2 : 4;
            String[] firsts = {given[0], given[1]};
            for (String first : firsts) {
                int type = before < 2 ? before : first.equals(given[0]) ? 0 : 1;
                Check.due("LOAD behind " + first + last, type == 0,
                        isGood("", 0, 2, 1, first + last + "LOAD 1, GO " + (at + 1)));
                Check.due("LOAD_ARRAY behind " + first + last, type == 1,
                        isGood("", 0, 2, 1, first + last + "LOAD_ARRAY 1, GO " + (at + 1)));
            }
        }
        Check.due("LOAD of nothing", false, isGood("", 0, 2, 1, "LOAD 1, GO 1"));
        Check.due("LOAD_ARRAY of nothing", false, isGood("", 0, 2, 1, "LOAD_ARRAY 1, GO 1"));
        Check.due("nothing on one way", false,
                isGood("i", 0, 2, 1, "LOAD 0, IF_ZERO 4, CONSTANT 0, STORE 1, LOAD 1, GO 5"));
        Check.due("an array on one way", false, isGood("i", 0, 1, 1,
                "LOAD 0, IF_ZERO 4, NOTHING, STORE_ARRAY 0, LOAD 0, GO 5"));
        Check.due("an int on one way", false, isGood("ia", 0, 2, 1,
                "LOAD 0, IF_ZERO 4, CONSTANT 0, STORE 1, LOAD_ARRAY 1, GO 5"));
    }

    /** "local ... v [is] there". */
    private static void localIsThere() {
        for (int v : new int[] {MIN, -1, 0, 1, 3, 4, 5, 9, 10, 31, 32, MAX}) {
            Check.due("LOAD " + v + " of 4", v >= 0 && v < 4,
                    isGood("iiii", 0, 4, 1, "LOAD " + v + ", GO 1"));
            Check.due("LOAD_ARRAY " + v + " of 4", v >= 0 && v < 4,
                    isGood("aaaa", 0, 4, 1, "LOAD_ARRAY " + v + ", GO 1"));
            for (int locals : new int[] {0, 1, 4, 10}) {
                boolean there = v >= 0 && v < locals;
                Check.due("STORE " + v + " of " + locals, there,
                        isGood("", 0, locals, 1, "CONSTANT 0, STORE " + v + ", GO 2"));
                Check.due("STORE_ARRAY " + v + " of " + locals, there,
                        isGood("", 0, locals, 1, "NOTHING, STORE_ARRAY " + v + ", GO 2"));
            }
        }
    }

    /** "place ... v [is] there". */
    private static void placeIsThere() {
        for (int v : new int[] {MIN, -1, 0, 1, 4, 5, 6, 7, 119, 120, MAX}) {
            String rest = ", GO 3, GO 4, GO 5";
            boolean there = v >= 0 && v <= 5;
            // At places 1 and 2 the stack of the IFs below is another one.
            boolean fits = there && v != 1 && v != 2;
            Check.due("GO " + v, there, isGood("", 0, 0, 2, "GO " + v + ", GO 1, GO 2" + rest));
            Check.due("IF_ZERO " + v, fits,
                    isGood("", 0, 0, 2, "CONSTANT 0, GO 2, IF_ZERO " + v + rest));
            Check.due("IF_NOTHING " + v, fits,
                    isGood("", 0, 0, 2, "NOTHING, GO 2, IF_NOTHING " + v + rest));
            Check.due("IF_LESS " + v, fits,
                    isGood("", 0, 0, 2, "CONSTANT 0, DOUBLE, IF_LESS " + v + rest));
            Check.due("IF_SAME " + v, fits,
                    isGood("", 0, 0, 2, "CONSTANT 0, DOUBLE, IF_SAME " + v + rest));
        }
    }

    /** "method v [is] there". */
    private static void methodIsThere() {
        for (int v : new int[] {MIN, -1, 0, 1, 6, 7, 8, 31, 32, MAX}) {
            CodeJudge x = Check.judging("", 0, 0, 0, "CALL " + v + ", RETURN");
            Check.due("CALL " + v + ", alone", v == 0, x.good(0));
            for (int m = 1; m <= 7; m++) {
                x.method(m, 0, 0, 0, 0, 0);
            }
            Check.due("CALL " + v + " of eight", v >= 0 && v <= 7, x.good(0));
            if (v >= 1 && v <= 7) {
                x.drop(v);
                Check.due("CALL " + v + " without it", false, x.good(0));
            }
        }
    }

    /** "(a call's method need not be good)". */
    private static void calledNeedNotBeGood() {
        CodeJudge x = Check.judging("", 0, 0, 0, "CALL 1, RETURN");
        x.method(1, 0, 0, 0, 0, 0);
        Check.due("good, calling one without code", true, x.good(0));
        Check.due("which is not good", false, x.good(1));
        Check.write(x, 1, "ADD");
        Check.due("good, calling one that can not be done", true, x.good(0));
        Check.due("which is not good either", false, x.good(1));
    }

    /** "the stack is not above the limit behind it". */
    private static void stackIsNotAboveTheLimit() {
        for (String[] row : INSTRUCTIONS) {
            int growth = row[2].length() - row[1].length();
            for (int limit = Math.max(row[1].length(), row[2].length()); limit <= 15; limit++) {
                String below = "i".repeat(limit - Math.max(row[1].length(), row[2].length()));
                Check.due(row[0] + " at limit " + limit, true,
                        behind(below + row[1], row[0], limit).good(0));
                if (growth > 0) {
                    Check.due(row[0] + " above limit " + limit, false,
                            behind(below + "i" + row[1], row[0], limit).good(0));
                }
            }
        }
    }

    /** An instruction that takes as much as it puts can be done with a full stack. */
    private static void sameHeightAtTheLimit() {
        Check.due("NEW and LENGTH, limit 1", true,
                isGood("", 0, 0, 1, "CONSTANT 0, NEW, LENGTH, OUT, RETURN"));
        Check.due("TURN, limit 2", true,
                isGood("", 0, 0, 2, "CONSTANT 0, NOTHING, TURN, GO 3"));
        Check.due("STORE and LOAD, limit 1", true,
                isGood("", 0, 1, 1, "CONSTANT 0, STORE 0, LOAD 0, GO 3"));
        CodeJudge x = Check.judging("", 0, 0, 1, "CONSTANT 0, CALL 1, GO 2");
        x.method(1, 1, 0, 2, 1, 0);
        Check.due("CALL, an int to an array, limit 1", true, x.good(0));
        x.method(1, 0, 0, 0, 0, 15);
        Check.due("CALL, nothing to nothing, at the limit", true, x.good(0));
        x.method(1, 0, 0, 1, 0, 15);
        Check.due("CALL, nothing to an int, at the limit", false, x.good(0));
    }

    /** The limit is each method's own: that of a called one does not count, nor what it stacks. */
    private static void onlyBehindCountsTheLimit() {
        CodeJudge x = Check.judging("", 0, 0, 4,
                "CONSTANT 0, DOUBLE, DOUBLE, DOUBLE, CALL 1, GO 5");
        x.method(1, 4, 0, 1, 4, 0);
        Check.due("called with limit 0", true, x.good(0));
        Check.due("behind it", 1, x.height(0, 5));
        x.method(1, 3, 0, 2, 4, 15);
        Check.due("called with limit 15", true, x.good(0));
        Check.due("behind that", 2, x.height(0, 5));
    }

    /** "RETURN leaves nothing on the stack." */
    private static void returnLeavesNothing() {
        String[] due = {"", "i", "a"};
        for (int returns = 0; returns <= 2; returns++) {
            Check.due("exactly, " + returns, true,
                    isGood("", returns, 0, 15, pushed(due[returns]) + "RETURN"));
            for (String left : new String[] {"i", "a", "ia", "i".repeat(14)}) {
                Check.due("leaving " + left + ", " + returns, false,
                        isGood("", returns, 0, 15, pushed(left + due[returns]) + "RETURN"));
            }
        }
    }

    /** "(which comes at one behind the last one cannot)". */
    private static void oneBehindTheLast() {
        Check.due("without code", false, isGood("", 0, 0, 0, ""));
        for (String[] row : INSTRUCTIONS) {
            int at = row[1].length();
            if (row[0].startsWith("GO")) {
                continue;
            }
            // The IFs go to a place that can be done, so that only the next one is missing.
            String text = "GO 2, GO 1, " + pushed(row[1]) + row[0].replace("*", "1");
            CodeJudge x = Check.judging("ia", 0, 3, 15, text);
            x.method(1, 0, 0, 0, 0, 0);
            x.method(2, 4, 10, 1, 4, 0);
            x.method(3, 3, 1, 2, 3, 0);
            Check.due(row[0] + " as the last", false, x.good(0));
            x.add(0, Check.GO, at + 3);
            Check.due(row[0] + " with one behind", true, x.good(0));
        }
        Check.due("GO to one behind the last", false, isGood("", 0, 0, 0, "GO 1"));
    }

    /** "on each way each instruction can be done": one that no way comes to need not. */
    private static void noWayNoMatter() {
        for (String wrong : new String[] {"ADD", "LOAD 99", "GO 99", "CALL 99", "IF_ZERO -1",
            "STORE_ARRAY -1", "DOUBLE", "PUT"}) {
            Check.due(wrong + " on no way", true, isGood("", 0, 0, 9, "RETURN, " + wrong));
            Check.due(wrong + " on one", false, isGood("", 0, 0, 9, wrong + ", RETURN"));
            Check.due(wrong + " on one of two, first", false,
                    isGood("", 0, 0, 9, "CONSTANT 0, IF_ZERO 3, RETURN, " + wrong + ", RETURN"));
            Check.due(wrong + " on one of two, second", false,
                    isGood("", 0, 0, 9, "CONSTANT 0, IF_ZERO 4, " + wrong + ", RETURN, RETURN"));
        }
    }

    /** "on each way": also on one that goes a loop again with other locals than at first. */
    private static void eachTurnOfALoopIsAWay() {
        Check.due("an array behind the first turn", false,
                isGood("i", 0, 1, 1, "LOAD 0, DROP, NOTHING, STORE_ARRAY 0, GO 0"));
        Check.due("an int again", true, isGood("i", 0, 1, 1,
                "LOAD 0, DROP, NOTHING, STORE_ARRAY 0, CONSTANT 0, STORE 0, GO 0"));
        Check.due("an int behind the first turn", false,
                isGood("a", 0, 1, 1, "LOAD_ARRAY 0, DROP, CONSTANT 0, STORE 0, GO 0"));
        // Local 1 is spoilt in the second turn alone, far ahead of where it is loaded.
        String loop = "LOAD_ARRAY 1, DROP, LOAD_ARRAY 2, STORE_ARRAY 1, ";
        Check.due("arrays all along", true, isGood("iaa", 0, 3, 1, loop + "GO 0"));
        Check.due("the third is an int by then", false,
                isGood("iaa", 0, 3, 1, loop + "CONSTANT 0, STORE 2, GO 0"));
        CodeJudge x = Check.judging("ia", 0, 2, 1, "GO 1, GO 2, GO 3, CONSTANT 0, STORE 1, "
                + "NOTHING, STORE_ARRAY 0, GO 1");
        int[][] due = {{1, 2}, {0, 0}, {0, 0}, {0, 0}, {0, 0}, {0, 1}, {0, 1}, {2, 1}};
        for (int place = 0; place < due.length; place++) {
            Check.due("local 0 at " + place, due[place][0], x.type(0, place, 1, 0));
            Check.due("local 1 at " + place, due[place][1], x.type(0, place, 1, 1));
        }
    }

    /** Two ways that come to one place, with a stack each. */
    private static boolean canMeet(String one, String other) {
        int second = 3 + one.length();
        int meeting = second + other.length();
        return isGood("i", 0, 1, 15, "LOAD 0, IF_ZERO " + second + ", " + pushed(one)
                + "GO " + meeting + ", " + pushed(other) + "GO " + meeting);
    }

    /** "any two ways that come to a place come with stacks of the same ints and arrays". */
    private static void waysMeetWithTheSameHeight() {
        for (int high = 0; high <= 15; high++) {
            for (int other = 0; other <= 15; other++) {
                Check.due("heights " + high + ", " + other, high == other,
                        canMeet("a".repeat(high), "a".repeat(other)));
            }
        }
    }

    /** The same sentence: an int and an array at one of the places, from the lowest on. */
    private static void waysMeetWithTheSameTypes() {
        String stack = "iaiaaiiiaaaiaia";
        Check.due("fifteen alike", true, canMeet(stack, stack));
        for (int k = 0; k < stack.length(); k++) {
            char type = stack.charAt(k) == 'i' ? 'a' : 'i';
            String other = stack.substring(0, k) + type + stack.substring(k + 1);
            Check.due("another at " + k, false, canMeet(stack, other));
            Check.due("another at " + k + ", the uppermost", false,
                    canMeet(stack.substring(0, k + 1), other.substring(0, k + 1)));
        }
    }

    /** The stacks must be the same, the locals need not. */
    private static void waysMayMeetWithOtherLocals() {
        CodeJudge x = Check.judging("i", 0, 4, 1, "LOAD 0, IF_ZERO 9, CONSTANT 0, STORE 1, "
                + "CONSTANT 0, STORE 2, NOTHING, STORE_ARRAY 3, GO 13, "
                + "NOTHING, STORE_ARRAY 1, NOTHING, STORE_ARRAY 3, RETURN");
        Check.due("good", true, x.good(0));
        int[] due = {1, 0, 0, 2};
        for (int k = 0; k < due.length; k++) {
            Check.due("local " + k + " where they meet", due[k], x.type(0, 13, 1, k));
        }
    }
}
