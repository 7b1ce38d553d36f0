import java.util.NoSuchElementException;

/**
 * Methods of a stack machine with ints and arrays of ints: a judge who tells without running them
 * whether they can ever go wrong, and a machine that runs them instruction by instruction.
 */
public final class CodeJudge {
    public static final int NONE = -1;

    private static final int METHODS = 8;
    private static final int MOST_PARAMETERS = 4;
    private static final int MOST_LOCALS = 10;
    private static final int MOST_LIMIT = 15;
    private static final int MOST_CODE = 120;
    private static final int MOST_STEPS = 2000;
    private static final int MOST_START_CELLS = 400;
    private static final int LAST_STATE = 8;

    // What a method returns, and what is on the stack or in a local, is told by the same numbers.
    private static final int NEITHER = 0;
    private static final int INT = 1;
    private static final int ARRAY = 2;

    private static final int ON_STACK = 0;
    private static final int IN_LOCALS = 1;

    private final Method[] methods;
    private final Judge judge;
    private final Machine machine;

    public CodeJudge() {
        methods = new Method[METHODS];
        for (int m = 0; m < METHODS; m++) {
            methods[m] = new Method();
        }
        judge = new Judge();
        machine = new Machine();
    }

    public boolean method(int m, int parameters, int arrays, int returns, int locals, int limit)
            throws NoSuchElementException, IllegalArgumentException {
        if (!isBelow(m, METHODS)) {
            throw new NoSuchElementException();
        }
        if (!isBelow(parameters, MOST_PARAMETERS + 1)
                || (arrays >> parameters) != 0
                || !isBelow(returns, ARRAY + 1)
                || locals < parameters || locals > MOST_LOCALS
                || !isBelow(limit, MOST_LIMIT + 1)) {
            throw new IllegalArgumentException();
        }
        Method changed = methods[m];
        boolean was = changed.there;
        changed.begin(parameters, arrays, returns, locals, limit);
        machine.forget();
        return was;
    }

    public int add(int m, int order, int v)
            throws NoSuchElementException, IllegalArgumentException, IllegalStateException {
        Method changed = present(m);
        if (!isBelow(order, Order.ORDERS)) {
            throw new IllegalArgumentException();
        }
        if (changed.size >= MOST_CODE) {
            throw new IllegalStateException();
        }
        changed.append(order, v);
        machine.forget();
        return changed.size;
    }

    public int patch(int m, int place, int v) throws NoSuchElementException {
        Method changed = presentWith(m, place);
        int was = changed.numberAt(place);
        changed.renumber(place, v);
        machine.forget();
        return was;
    }

    public int drop(int m) throws NoSuchElementException {
        Method changed = present(m);
        int had = changed.size;
        changed.vanish();
        machine.forget();
        return had;
    }

    public boolean good(int m) throws NoSuchElementException {
        return judge.approves(methods, present(m));
    }

    public int height(int m, int place) throws NoSuchElementException, IllegalStateException {
        Method judged = presentWith(m, place);
        needGood(judged);
        return judge.heightAt(place);
    }

    public int type(int m, int place, int kind, int k)
            throws NoSuchElementException, IllegalStateException {
        Method judged = presentWith(m, place);
        if (k < 0 || (kind != ON_STACK && (kind != IN_LOCALS || k >= judged.locals))) {
            throw new NoSuchElementException();
        }
        needGood(judged);
        return kind == ON_STACK ? judge.stackTypeAt(place, k) : judge.localTypeAt(place, k);
    }

    public void start(int m, int a, int b, int c, int d)
            throws NoSuchElementException, IllegalArgumentException, IllegalStateException {
        Method first = present(m);
        if (!cellsFit(first, 0, a) || !cellsFit(first, 1, b)
                || !cellsFit(first, 2, c) || !cellsFit(first, 3, d)) {
            throw new IllegalArgumentException();
        }
        if (!areGoodFrom(m)) {
            throw new IllegalStateException();
        }
        machine.begin(m);
        machine.give(first, 0, a);
        machine.give(first, 1, b);
        machine.give(first, 2, c);
        machine.give(first, 3, d);
    }

    public int run(int n) throws IllegalArgumentException, IllegalStateException {
        if (!isBelow(n, MOST_STEPS + 1)) {
            throw new IllegalArgumentException();
        }
        needRun();
        return machine.advance(methods, n);
    }

    public int state(int what) throws IllegalArgumentException, IllegalStateException {
        if (!isBelow(what, LAST_STATE + 1)) {
            throw new IllegalArgumentException();
        }
        needRun();
        return machine.tell(what);
    }

    public int value(int kind, int k) throws NoSuchElementException {
        if (!machine.there || machine.frames.open == 0) {
            throw new NoSuchElementException();
        }
        Frames frames = machine.frames;
        if (kind == ON_STACK && isBelow(k, frames.upperHeight())) {
            return frames.onStack(k);
        }
        if (kind == IN_LOCALS && isBelow(k, methods[frames.upperMethod()].locals)) {
            return frames.inLocal(k);
        }
        throw new NoSuchElementException();
    }

    public int cell(int array, int k) throws NoSuchElementException {
        if (!machine.there || !machine.heap.has(array)) {
            throw new NoSuchElementException();
        }
        if (k == NONE) {
            return machine.heap.lengthOf(array);
        }
        if (!machine.heap.hasCell(array, k)) {
            throw new NoSuchElementException();
        }
        return machine.heap.read(array, k);
    }

    public int output(int k) throws NoSuchElementException {
        if (!machine.there || !machine.outputs.keeps(k)) {
            throw new NoSuchElementException();
        }
        return machine.outputs.read(k);
    }

    public int count(int what) throws IllegalArgumentException {
        if (!isBelow(what, 3)) {
            throw new IllegalArgumentException();
        }
        int sum = 0;
        for (int m = 0; m < METHODS; m++) {
            if (methods[m].there) {
                sum += share(methods[m], what);
            }
        }
        return sum;
    }

    private int share(Method method, int what) {
        if (what == 0) {
            return 1;
        }
        if (what == 1) {
            return method.size;
        }
        return judge.approves(methods, method) ? 1 : 0;
    }

    private static boolean isBelow(int x, int bound) {
        return x >= 0 && x < bound;
    }

    private Method present(int m) {
        if (!isBelow(m, METHODS) || !methods[m].there) {
            throw new NoSuchElementException();
        }
        return methods[m];
    }

    private Method presentWith(int m, int place) {
        Method found = present(m);
        if (!found.has(place)) {
            throw new NoSuchElementException();
        }
        return found;
    }

    private void needGood(Method judged) {
        if (!judge.approves(methods, judged)) {
            throw new IllegalStateException();
        }
    }

    private void needRun() {
        if (!machine.there) {
            throw new IllegalStateException();
        }
    }

    /**
     * Whether a method and all that it can come to call are good. Calls that no way comes to do not
     * count, so the judge is asked which ones are reached.
     */
    private boolean areGoodFrom(int m) {
        int wanted = 1 << m;
        int judged = 0;
        for (int turn = 0; turn < METHODS && wanted != judged; turn++) {
            int next = Integer.numberOfTrailingZeros(wanted & ~judged);
            if (!isBelow(next, METHODS) || !judge.approves(methods, methods[next])) {
                return false;
            }
            judged |= 1 << next;
            wanted |= judge.calledBy(methods[next]);
        }
        return true;
    }

    private static boolean cellsFit(Method first, int k, int cells) {
        return !first.takesArray(k) || isBelow(cells, MOST_START_CELLS + 1);
    }

    /** The orders by number, and what those take and put for which it is always the same. */
    private static final class Order {
        static final int CONSTANT = 0;
        static final int LOAD = 1;
        static final int STORE = 2;
        static final int LOAD_ARRAY = 3;
        static final int STORE_ARRAY = 4;
        static final int ADD = 5;
        static final int SUBTRACT = 6;
        static final int MULTIPLY = 7;
        static final int DIVIDE = 8;
        static final int REST = 9;
        static final int NEW = 10;
        static final int LENGTH = 11;
        static final int GET = 12;
        static final int PUT = 13;
        static final int GO = 14;
        static final int IF_ZERO = 15;
        static final int IF_LESS = 16;
        static final int IF_SAME = 17;
        static final int NOTHING = 18;
        static final int IF_NOTHING = 19;
        static final int DOUBLE = 20;
        static final int DROP = 21;
        static final int TURN = 22;
        static final int CALL = 23;
        static final int RETURN = 24;
        static final int OUT = 25;
        static final int ORDERS = 26;

        // Of the next three functions none is asked about the orders 1 to 4 and 20 to 24:
        // what those take and put depends on a local, the stack or a method.

        static int taken(int order) {
            switch (order) {
                case CONSTANT:
                case GO:
                case NOTHING:
                    return 0;
                case PUT:
                    return 3;
                case GET:
                case IF_LESS:
                case IF_SAME:
                    return 2;
                default:
                    return isArithmetic(order) ? 2 : 1;
            }
        }

        /** As bits; bit 0 stands for the lowest of what is taken. */
        static int arraysTaken(int order) {
            switch (order) {
                case LENGTH:
                case GET:
                case PUT:
                case IF_NOTHING:
                    return 1;
                default:
                    return 0;
            }
        }

        static int puts(int order) {
            switch (order) {
                case CONSTANT:
                case LENGTH:
                case GET:
                    return INT;
                case NEW:
                case NOTHING:
                    return ARRAY;
                default:
                    return isArithmetic(order) ? INT : NEITHER;
            }
        }

        static boolean isArithmetic(int order) {
            return order >= ADD && order <= REST;
        }

        /** Whether an order works on two values or more without leaving for another place. */
        static boolean combines(int order) {
            return isArithmetic(order) || order == GET || order == PUT || order == TURN;
        }

        static boolean namesLocal(int order) {
            return order >= LOAD && order <= STORE_ARRAY;
        }

        static boolean namesPlace(int order) {
            return (order >= GO && order <= IF_SAME) || order == IF_NOTHING;
        }
    }

    /** One of the eight methods, there or not. */
    private static final class Method {
        boolean there;
        int parameters;
        int arrays;
        int returns;
        int locals;
        int limit;
        int size;
        private final int[] orders;
        private final int[] numbers;

        Method() {
            orders = new int[MOST_CODE];
            numbers = new int[MOST_CODE];
        }

        void begin(int parameters, int arrays, int returns, int locals, int limit) {
            there = true;
            this.parameters = parameters;
            this.arrays = arrays;
            this.returns = returns;
            this.locals = locals;
            this.limit = limit;
            size = 0;
        }

        void vanish() {
            there = false;
            size = 0;
        }

        void append(int order, int v) {
            if (size < MOST_CODE) {
                orders[size] = order;
                numbers[size] = v;
                size++;
            }
        }

        void renumber(int place, int v) {
            if (has(place)) {
                numbers[place] = v;
            }
        }

        boolean has(int place) {
            return isBelow(place, size);
        }

        /** Outside the code RETURN is told, so that no reader can go on from there. */
        int orderAt(int place) {
            return has(place) ? orders[place] : Order.RETURN;
        }

        int numberAt(int place) {
            return has(place) ? numbers[place] : 0;
        }

        boolean takesArray(int k) {
            return ((arrays >> k) & 1) != 0;
        }
    }

    /** What is on the stack and in the locals, as bits, while the judge follows an instruction. */
    private static final class Shape {
        int high;
        // Bit j: an array is at j of the stack; the bits from high on are always 0.
        int stack;
        int intLocals;
        int arrayLocals;

        boolean take(int many, int arraysAmong) {
            if (high < many || (stack >> (high - many)) != arraysAmong) {
                return false;
            }
            high -= many;
            stack &= (1 << high) - 1;
            return true;
        }

        boolean takeAny() {
            return high > 0 && take(1, stack >> (high - 1));
        }

        boolean turn() {
            if (high < 2) {
                return false;
            }
            int upper = stack >> (high - 1);
            int lower = (stack >> (high - 2)) & 1;
            int below = stack & ((1 << (high - 2)) - 1);
            stack = below | upper << (high - 2) | lower << (high - 1);
            return true;
        }

        // put and setLocal are always true, so that they can end a row of conditions; whether the
        // stack has become too high is looked at behind the instruction.

        boolean put(int type) {
            if (type == ARRAY) {
                stack |= 1 << high;
            }
            if (type != NEITHER) {
                high++;
            }
            return true;
        }

        int upperType() {
            return high > 0 && (stack >> (high - 1)) != 0 ? ARRAY : INT;
        }

        boolean setLocal(int k, int type) {
            intLocals &= ~(1 << k);
            arrayLocals &= ~(1 << k);
            if (type == INT) {
                intLocals |= 1 << k;
            } else {
                arrayLocals |= 1 << k;
            }
            return true;
        }

        boolean hasInLocal(int k, int type) {
            return (((type == INT ? intLocals : arrayLocals) >> k) & 1) != 0;
        }
    }

    /**
     * Follows all ways at once. That is exact: at a place of a good method all ways have one stack,
     * and each local changes by itself, so for each local it is enough to keep what all ways share.
     */
    private static final class Judge {
        // A place is looked at when a way first comes, and again whenever one of its locals becomes
        // neither.
        private static final int MOST_LOOKS = MOST_CODE * (MOST_LOCALS + 1);

        private final int[] heights;
        private final int[] stacks;
        private final int[] intLocals;
        private final int[] arrayLocals;
        private final int[] waiting;
        private final boolean[] waits;
        private int waitingSize;
        private final Shape now;

        Judge() {
            heights = new int[MOST_CODE];
            stacks = new int[MOST_CODE];
            intLocals = new int[MOST_CODE];
            arrayLocals = new int[MOST_CODE];
            waiting = new int[MOST_CODE];
            waits = new boolean[MOST_CODE];
            now = new Shape();
        }

        /** Whether a method is good; if so, what is ahead of its places can be asked afterwards. */
        boolean approves(Method[] methods, Method method) {
            enter(method);
            if (!arrive(method, 0)) {
                return false;
            }
            for (int look = 0; look < MOST_LOOKS && waitingSize > 0; look++) {
                waitingSize--;
                int place = waiting[waitingSize];
                waits[place] = false;
                if (!follow(methods, method, place)) {
                    return false;
                }
            }
            return waitingSize == 0;
        }

        private void enter(Method method) {
            for (int place = 0; place < MOST_CODE; place++) {
                heights[place] = NONE;
                waits[place] = false;
            }
            waitingSize = 0;
            now.high = 0;
            now.stack = 0;
            now.intLocals = ((1 << method.parameters) - 1) & ~method.arrays;
            now.arrayLocals = method.arrays;
        }

        private boolean follow(Method[] methods, Method method, int place) {
            int order = method.orderAt(place);
            int v = method.numberAt(place);
            now.high = heights[place];
            now.stack = stacks[place];
            now.intLocals = intLocals[place];
            now.arrayLocals = arrayLocals[place];
            if (!isThere(methods, method, order, v) || !change(methods, method, order, v)
                    || now.high > method.limit) {
                return false;
            }
            if (order == Order.RETURN) {
                return now.high == 0;
            }
            if (Order.namesPlace(order) && !arrive(method, v)) {
                return false;
            }
            return order == Order.GO || arrive(method, place + 1);
        }

        private static boolean isThere(Method[] methods, Method method, int order, int v) {
            if (Order.namesLocal(order)) {
                return isBelow(v, method.locals);
            }
            if (Order.namesPlace(order)) {
                return method.has(v);
            }
            return order != Order.CALL || (isBelow(v, METHODS) && methods[v].there);
        }

        /** Takes and puts what an order does; false if what it takes is not there. */
        private boolean change(Method[] methods, Method method, int order, int v) {
            switch (order) {
                case Order.LOAD:
                    return now.hasInLocal(v, INT) && now.put(INT);
                case Order.STORE:
                    return now.take(1, 0) && now.setLocal(v, INT);
                case Order.LOAD_ARRAY:
                    return now.hasInLocal(v, ARRAY) && now.put(ARRAY);
                case Order.STORE_ARRAY:
                    return now.take(1, 1) && now.setLocal(v, ARRAY);
                case Order.DOUBLE:
                    return now.high > 0 && now.put(now.upperType());
                case Order.DROP:
                    return now.takeAny();
                case Order.TURN:
                    return now.turn();
                case Order.CALL:
                    return now.take(methods[v].parameters, methods[v].arrays)
                            && now.put(methods[v].returns);
                case Order.RETURN:
                    return method.returns == NEITHER
                            || now.take(1, method.returns == ARRAY ? 1 : 0);
                default:
                    return now.take(Order.taken(order), Order.arraysTaken(order))
                            && now.put(Order.puts(order));
            }
        }

        /** Brings what is behind an instruction to a place; false if it may not come there. */
        private boolean arrive(Method method, int place) {
            if (!method.has(place)) {
                return false;
            }
            if (heights[place] == NONE) {
                heights[place] = now.high;
                stacks[place] = now.stack;
                intLocals[place] = now.intLocals;
                arrayLocals[place] = now.arrayLocals;
                await(place);
                return true;
            }
            if (heights[place] != now.high || stacks[place] != now.stack) {
                return false;
            }
            int ints = intLocals[place] & now.intLocals;
            int arrays = arrayLocals[place] & now.arrayLocals;
            if (ints != intLocals[place] || arrays != arrayLocals[place]) {
                intLocals[place] = ints;
                arrayLocals[place] = arrays;
                await(place);
            }
            return true;
        }

        private void await(int place) {
            if (!waits[place] && waitingSize < MOST_CODE) {
                waits[place] = true;
                waiting[waitingSize] = place;
                waitingSize++;
            }
        }

        int heightAt(int place) {
            return isBelow(place, MOST_CODE) ? heights[place] : NONE;
        }

        int stackTypeAt(int place, int k) {
            if (!isBelow(k, heightAt(place))) {
                return NONE;
            }
            return ((stacks[place] >> k) & 1) != 0 ? ARRAY : INT;
        }

        int localTypeAt(int place, int k) {
            if (heightAt(place) == NONE) {
                return NONE;
            }
            if (((intLocals[place] >> k) & 1) != 0) {
                return INT;
            }
            return ((arrayLocals[place] >> k) & 1) != 0 ? ARRAY : NEITHER;
        }

        /** The methods, as bits, that the method judged last calls on its ways. */
        int calledBy(Method method) {
            int called = 0;
            for (int place = 0; place < method.size; place++) {
                if (heightAt(place) != NONE && method.orderAt(place) == Order.CALL) {
                    called |= 1 << method.numberAt(place);
                }
            }
            return called;
        }
    }

    /**
     * The frames of a run, in rows that are used again. Only good methods run, so nothing is ever
     * taken from an empty stack or put on a full one; what looks at an index here only keeps each
     * access safe by its own lines.
     */
    private static final class Frames {
        static final int MOST = 50;

        int open;
        private final int[] numbers;
        private final int[] places;
        private final int[] heights;
        private final int[] locals;
        private final int[] stacks;

        Frames() {
            numbers = new int[MOST];
            places = new int[MOST];
            heights = new int[MOST];
            locals = new int[MOST * MOST_LOCALS];
            stacks = new int[MOST * MOST_LIMIT];
        }

        void enter(int number) {
            if (open >= MOST) {
                return;
            }
            numbers[open] = number;
            places[open] = 0;
            heights[open] = 0;
            for (int k = 0; k < MOST_LOCALS; k++) {
                locals[open * MOST_LOCALS + k] = 0;
            }
            open++;
        }

        /** Enters a method with the uppermost values of the frame that calls it as parameters. */
        void enterWith(int number, int parameters) {
            int caller = open - 1;
            if (open == 0 || open >= MOST || heights[caller] < parameters) {
                return;
            }
            enter(number);
            heights[caller] -= parameters;
            for (int k = 0; k < parameters; k++) {
                setLocal(k, stacks[caller * MOST_LIMIT + heights[caller] + k]);
            }
        }

        void leave() {
            if (open > 0) {
                open--;
            }
        }

        int upperMethod() {
            return open > 0 ? numbers[open - 1] : NONE;
        }

        int upperPlace() {
            return open > 0 ? places[open - 1] : NONE;
        }

        int upperHeight() {
            return open > 0 ? heights[open - 1] : 0;
        }

        void go(int place) {
            if (open > 0) {
                places[open - 1] = place;
            }
        }

        int inLocal(int k) {
            return open > 0 && isBelow(k, MOST_LOCALS) ? locals[(open - 1) * MOST_LOCALS + k] : 0;
        }

        void setLocal(int k, int x) {
            if (open > 0 && isBelow(k, MOST_LOCALS)) {
                locals[(open - 1) * MOST_LOCALS + k] = x;
            }
        }

        int onStack(int k) {
            return isBelow(k, upperHeight()) ? stacks[(open - 1) * MOST_LIMIT + k] : 0;
        }

        /** 0 is the uppermost. */
        int fromTop(int k) {
            return onStack(upperHeight() - 1 - k);
        }

        void push(int x) {
            int high = upperHeight();
            if (open > 0 && high < MOST_LIMIT) {
                stacks[(open - 1) * MOST_LIMIT + high] = x;
                heights[open - 1] = high + 1;
            }
        }

        int pop() {
            if (open == 0 || heights[open - 1] == 0) {
                return 0;
            }
            heights[open - 1]--;
            return stacks[(open - 1) * MOST_LIMIT + heights[open - 1]];
        }
    }

    /** The arrays of a run, one behind another in one row. */
    private static final class Heap {
        private static final int MOST_ARRAYS = 200;
        private static final int MOST_CELLS = 2000;

        int arrays;
        int used;
        private final int[] begins;
        private final int[] lengths;
        private final int[] cells;

        Heap() {
            begins = new int[MOST_ARRAYS];
            lengths = new int[MOST_ARRAYS];
            cells = new int[MOST_CELLS];
        }

        void clear() {
            arrays = 0;
            used = 0;
        }

        boolean hasRoom(int length) {
            return arrays < MOST_ARRAYS && length <= MOST_CELLS - used;
        }

        int make(int length) {
            if (length < 0 || !hasRoom(length)) {
                return NONE;
            }
            begins[arrays] = used;
            lengths[arrays] = length;
            // The row still holds what an earlier run wrote there.
            for (int k = 0; k < length; k++) {
                cells[used + k] = 0;
            }
            used += length;
            arrays++;
            return arrays - 1;
        }

        boolean has(int array) {
            return isBelow(array, arrays);
        }

        boolean hasCell(int array, int k) {
            return has(array) && isBelow(k, lengths[array]);
        }

        int lengthOf(int array) {
            return has(array) ? lengths[array] : 0;
        }

        int read(int array, int k) {
            return hasCell(array, k) ? cells[begins[array] + k] : 0;
        }

        void write(int array, int k, int x) {
            if (hasCell(array, k)) {
                cells[begins[array] + k] = x;
            }
        }
    }

    /** What a run has put out, of which only the latest values are kept. */
    private static final class Outputs {
        private static final int KEPT = 100;

        int total;
        private final int[] latest;

        Outputs() {
            latest = new int[KEPT];
        }

        void clear() {
            total = 0;
        }

        void append(int x) {
            latest[Math.floorMod(total, KEPT)] = x;
            total++;
        }

        boolean keeps(int k) {
            return isBelow(k, total) && k >= total - KEPT;
        }

        int read(int k) {
            return keeps(k) ? latest[Math.floorMod(k, KEPT)] : 0;
        }
    }

    /** The run, if there is one. */
    private static final class Machine {
        private static final int RUNS = 0;
        private static final int ENDED = 1;
        private static final int BY_ZERO = 2;
        private static final int NO_ARRAY = 3;
        private static final int NO_CELL = 4;
        private static final int BELOW_ZERO_CELLS = 5;
        private static final int TOO_MANY_CELLS = 6;
        private static final int TOO_MANY_FRAMES = 7;

        boolean there;
        final Frames frames;
        final Heap heap;
        final Outputs outputs;
        private int outcome;
        private int steps;
        private int returned;

        Machine() {
            frames = new Frames();
            heap = new Heap();
            outputs = new Outputs();
        }

        void forget() {
            there = false;
        }

        void begin(int m) {
            there = true;
            outcome = RUNS;
            steps = 0;
            returned = 0;
            heap.clear();
            outputs.clear();
            frames.open = 0;
            frames.enter(m);
        }

        /** Gives the first frame its parameter k, if its method has one. */
        void give(Method first, int k, int x) {
            if (k < first.parameters) {
                frames.setLocal(k, first.takesArray(k) ? heap.make(x) : x);
            }
        }

        int advance(Method[] methods, int most) {
            int done = 0;
            while (done < most && outcome == RUNS && step(methods)) {
                done++;
            }
            return done;
        }

        int tell(int what) {
            switch (what) {
                case 0: return outcome;
                case 1: return steps;
                case 2: return frames.open;
                case 3: return frames.upperMethod();
                case 4: return frames.upperPlace();
                case 5: return returned;
                case 6: return heap.arrays;
                case 7: return heap.used;
                default: return outputs.total;
            }
        }

        /** Does an instruction, unless there is trouble with it: whether it was done. */
        private boolean step(Method[] methods) {
            int m = frames.upperMethod();
            if (!isBelow(m, METHODS)) {
                return false;
            }
            Method method = methods[m];
            int place = frames.upperPlace();
            int order = method.orderAt(place);
            int v = method.numberAt(place);
            outcome = troubleWith(order);
            if (outcome != RUNS) {
                return false;
            }
            steps++;
            frames.go(place + 1);
            if (order == Order.RETURN) {
                giveBack(method.returns);
            } else if (order == Order.CALL && isBelow(v, METHODS)) {
                frames.enterWith(v, methods[v].parameters);
            } else if (Order.namesPlace(order)) {
                leap(order, v);
            } else if (Order.combines(order)) {
                int upper = frames.pop();
                combine(order, frames.pop(), upper);
            } else {
                work(order, v);
            }
            return true;
        }

        /** Looks only, because an instruction with trouble must do nothing. */
        private int troubleWith(int order) {
            switch (order) {
                case Order.DIVIDE:
                case Order.REST:
                    return frames.fromTop(0) == 0 ? BY_ZERO : RUNS;
                case Order.NEW:
                    return troubleWithLength(frames.fromTop(0));
                case Order.LENGTH:
                    return heap.has(frames.fromTop(0)) ? RUNS : NO_ARRAY;
                case Order.GET:
                    return troubleWithCell(frames.fromTop(1), frames.fromTop(0));
                case Order.PUT:
                    return troubleWithCell(frames.fromTop(2), frames.fromTop(1));
                case Order.CALL:
                    return frames.open >= Frames.MOST ? TOO_MANY_FRAMES : RUNS;
                default:
                    return RUNS;
            }
        }

        private int troubleWithLength(int length) {
            if (length < 0) {
                return BELOW_ZERO_CELLS;
            }
            return heap.hasRoom(length) ? RUNS : TOO_MANY_CELLS;
        }

        private int troubleWithCell(int array, int k) {
            if (!heap.has(array)) {
                return NO_ARRAY;
            }
            return heap.hasCell(array, k) ? RUNS : NO_CELL;
        }

        private void giveBack(int returns) {
            int result = returns == NEITHER ? 0 : frames.pop();
            frames.leave();
            if (frames.open == 0) {
                outcome = ENDED;
                returned = result;
            } else if (returns != NEITHER) {
                frames.push(result);
            }
        }

        private void leap(int order, int v) {
            if (order == Order.GO || isMet(order, frames.pop())) {
                frames.go(v);
            }
        }

        private boolean isMet(int order, int upper) {
            switch (order) {
                case Order.IF_ZERO: return upper == 0;
                case Order.IF_NOTHING: return upper == NONE;
                case Order.IF_LESS: return frames.pop() < upper;
                default: return frames.pop() == upper;
            }
        }

        private void work(int order, int v) {
            switch (order) {
                case Order.CONSTANT:
                    frames.push(v);
                    break;
                case Order.LOAD:
                case Order.LOAD_ARRAY:
                    frames.push(frames.inLocal(v));
                    break;
                case Order.STORE:
                case Order.STORE_ARRAY:
                    frames.setLocal(v, frames.pop());
                    break;
                case Order.NOTHING:
                    frames.push(NONE);
                    break;
                case Order.DOUBLE:
                    frames.push(frames.fromTop(0));
                    break;
                case Order.DROP:
                    frames.pop();
                    break;
                case Order.OUT:
                    outputs.append(frames.pop());
                    break;
                case Order.NEW:
                    frames.push(heap.make(frames.pop()));
                    break;
                default:
                    frames.push(heap.lengthOf(frames.pop()));
            }
        }

        private void combine(int order, int lower, int upper) {
            switch (order) {
                case Order.TURN:
                    frames.push(upper);
                    frames.push(lower);
                    break;
                case Order.GET:
                    frames.push(heap.read(lower, upper));
                    break;
                case Order.PUT:
                    heap.write(frames.pop(), lower, upper);
                    break;
                default:
                    frames.push(reckon(order, lower, upper));
            }
        }

        private static int reckon(int order, int x, int y) {
            switch (order) {
                case Order.ADD: return x + y;
                case Order.SUBTRACT: return x - y;
                case Order.MULTIPLY: return x * y;
                case Order.DIVIDE: return y == 0 ? 0 : x / y;
                default: return y == 0 ? 0 : x % y;
            }
        }
    }
}
