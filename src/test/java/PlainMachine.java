import java.util.ArrayList;
import java.util.List;

/** A machine that is only plain: frames, arrays and output are lists that grow. */
final class PlainMachine {
    /** A method that is being run. */
    static final class Frame {
        final int number;
        final int[] locals;
        final List<Integer> stack = new ArrayList<>();
        int place = 0;

        Frame(int number, int locals) {
            this.number = number;
            this.locals = new int[locals];
        }

        int top(int k) {
            return stack.get(stack.size() - 1 - k);
        }

        int pop() {
            return stack.remove(stack.size() - 1);
        }
    }

    private final PlainMethod[] methods;
    final List<Frame> frames = new ArrayList<>();
    final List<int[]> arrays = new ArrayList<>();
    final List<Integer> output = new ArrayList<>();
    int cells = 0;
    int steps = 0;
    int outcome = 0;
    int returned = 0;

    PlainMachine(PlainMethod[] methods, int m, int[] given) {
        this.methods = methods;
        Frame first = new Frame(m, methods[m].locals);
        for (int k = 0; k < methods[m].parameters.length(); k++) {
            first.locals[k] = methods[m].parameters.charAt(k) == 'a' ? make(given[k]) : given[k];
        }
        frames.add(first);
    }

    private int make(int length) {
        arrays.add(new int[length]);
        cells += length;
        return arrays.size() - 1;
    }

    Frame upper() {
        return frames.get(frames.size() - 1);
    }

    int run(int n) {
        int before = steps;
        for (int i = 0; i < n && outcome == 0; i++) {
            outcome = trouble();
            if (outcome == 0) {
                steps++;
                step();
            }
        }
        return steps - before;
    }

    private int trouble() {
        Frame f = upper();
        switch (methods[f.number].code.get(f.place)[0]) {
            case Check.DIVIDE:
            case Check.REST:
                return f.top(0) == 0 ? 2 : 0;
            case Check.LENGTH:
                return f.top(0) == -1 ? 3 : 0;
            case Check.GET:
                return cellTrouble(f.top(1), f.top(0));
            case Check.PUT:
                return cellTrouble(f.top(2), f.top(1));
            case Check.NEW:
                return f.top(0) < 0 ? 5
                        : (long) cells + f.top(0) > 2000 || arrays.size() + 1 > 200 ? 6 : 0;
            case Check.CALL:
                return frames.size() + 1 > 50 ? 7 : 0;
            default:
                return 0;
        }
    }

    private int cellTrouble(int array, int k) {
        return array == -1 ? 3 : k < 0 || k >= arrays.get(array).length ? 4 : 0;
    }

    private void step() {
        Frame f = upper();
        int order = methods[f.number].code.get(f.place)[0];
        int v = methods[f.number].code.get(f.place)[1];
        List<Integer> s = f.stack;
        f.place++;
        switch (order) {
            case Check.CONSTANT -> s.add(v);
            case Check.LOAD, Check.LOAD_ARRAY -> s.add(f.locals[v]);
            case Check.STORE, Check.STORE_ARRAY -> f.locals[v] = f.pop();
            case Check.NEW -> s.add(make(f.pop()));
            case Check.LENGTH -> s.add(arrays.get(f.pop()).length);
            case Check.PUT -> arrays.get(f.top(2))[f.top(1)] = f.top(0);
            case Check.GO -> f.place = v;
            case Check.IF_ZERO -> f.place = f.pop() == 0 ? v : f.place;
            case Check.IF_NOTHING -> f.place = f.pop() == -1 ? v : f.place;
            case Check.IF_LESS -> f.place = f.top(1) < f.top(0) ? v : f.place;
            case Check.IF_SAME -> f.place = f.top(1) - f.top(0) == 0 ? v : f.place;
            case Check.NOTHING -> s.add(-1);
            case Check.DOUBLE -> s.add(f.top(0));
            case Check.DROP -> f.pop();
            case Check.TURN -> s.add(s.remove(s.size() - 2));
            case Check.CALL -> call(f, v);
            case Check.RETURN -> giveBack(f);
            case Check.OUT -> output.add(f.pop());
            default -> s.set(s.size() - 2, combined(order, f.top(1), f.top(0)));
        }
        int left = order == Check.PUT ? 3
                : order == Check.IF_LESS || order == Check.IF_SAME ? 2
                : order >= Check.ADD && order <= Check.REST || order == Check.GET ? 1 : 0;
        for (int i = 0; i < left; i++) {
            f.pop();
        }
    }

    private int combined(int order, int x, int y) {
        return switch (order) {
            case Check.ADD -> x + y;
            case Check.SUBTRACT -> x - y;
            case Check.MULTIPLY -> x * y;
            case Check.DIVIDE -> (int) ((long) x / y);
            case Check.REST -> (int) ((long) x % y);
            default -> arrays.get(x)[y];
        };
    }

    private void call(Frame caller, int m) {
        Frame made = new Frame(m, methods[m].locals);
        int many = methods[m].parameters.length();
        for (int k = 0; k < many; k++) {
            made.locals[k] = caller.top(many - 1 - k);
        }
        for (int k = 0; k < many; k++) {
            caller.pop();
        }
        frames.add(made);
    }

    private void giveBack(Frame f) {
        frames.remove(frames.size() - 1);
        boolean isNothing = methods[f.number].returns.isEmpty();
        if (frames.isEmpty()) {
            outcome = 1;
            returned = isNothing ? 0 : f.top(0);
        } else if (!isNothing) {
            upper().stack.add(f.top(0));
        }
    }
}
