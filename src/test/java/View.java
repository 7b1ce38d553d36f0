import java.util.function.Consumer;
import java.util.function.IntSupplier;
import java.util.function.Supplier;

/** What can be seen of an object, written down to compare two that should be alike. */
final class View {
    // With the calls that made the object this stays below the document's 512.
    private static final int MOST_CALLS = 330;

    private final StringBuilder text = new StringBuilder();
    private int calls = 0;

    private View() {
    }

    /** A refused call throws what is due, and the object stays like one that never had the call. */
    static void refused(String what, Class<?> want, Supplier<CodeJudge> made,
            Consumer<CodeJudge> call) {
        for (int side = 0; side < 3; side++) {
            CodeJudge touched = made.get();
            Check.fails(what, want, () -> call.accept(touched));
            String got = of(touched, side);
            String due = of(made.get(), side);
            if (!got.equals(due)) {
                System.out.println(what + " left  " + got + "\n  where due is " + due);
            }
            Check.due(what + " changes nothing", true, got.equals(due));
        }
    }

    /** To look at the code or to go on with the run changes the object: each side has its own. */
    private static String of(CodeJudge x, int side) {
        View view = new View();
        if (side == 0) {
            view.lookAtCode(x);
        } else if (side == 1) {
            view.lookAtJudge(x);
        } else {
            view.lookAtRun(x);
        }
        return view.text.toString();
    }

    /** Writes an answer down: whether there was one. */
    private boolean tell(String name, IntSupplier call) {
        if (calls >= MOST_CALLS) {
            return false;
        }
        calls++;
        text.append(name).append(' ');
        try {
            text.append(call.getAsInt()).append(' ');
            return true;
        } catch (RuntimeException e) {
            text.append(e.getClass().getSimpleName()).append(' ');
            return false;
        }
    }

    private void lookAtCode(CodeJudge x) {
        for (int what = 0; what <= 2; what++) {
            int each = what;
            tell("count", () -> x.count(each));
        }
        for (int m = 0; m <= 7; m++) {
            int each = m;
            int place = 0;
            while (patched(x, m, place)) {
                place++;
            }
            tell("add", () -> x.add(each, Check.DROP, 5));
            tell("drop", () -> x.drop(each));
        }
    }

    private boolean patched(CodeJudge x, int m, int place) {
        return tell("patch", () -> x.patch(m, place, 0));
    }

    private void lookAtJudge(CodeJudge x) {
        for (int m = 0; m <= 7; m++) {
            int each = m;
            tell("good", () -> x.good(each) ? 1 : 0);
            for (int place = 0; place < 20 && told(x, m, place); place++) {
                lookAtTypes(x, m, place);
            }
        }
    }

    private boolean told(CodeJudge x, int m, int place) {
        return tell("height", () -> x.height(m, place));
    }

    private void lookAtTypes(CodeJudge x, int m, int place) {
        tell("lowest", () -> x.type(m, place, 0, 0));
        for (int k = 0; k < 4; k++) {
            int each = k;
            tell("local", () -> x.type(m, place, 1, each));
        }
    }

    private void lookAtRun(CodeJudge x) {
        lookAtStates(x);
        for (int k = 0; k < 4; k++) {
            int each = k;
            tell("stack", () -> x.value(0, each));
            tell("local", () -> x.value(1, each));
            tell("output", () -> x.output(each));
        }
        for (int array = 0; array < 4; array++) {
            for (int k = -1; k < 4; k++) {
                int cell = k;
                int each = array;
                tell("cell", () -> x.cell(each, cell));
            }
        }
        tell("run", () -> x.run(1));
        lookAtStates(x);
        tell("run", () -> x.run(2000));
        lookAtStates(x);
        tell("output", () -> x.output(x.state(8) - 1));
    }

    private void lookAtStates(CodeJudge x) {
        for (int what = 0; what <= 8; what++) {
            int each = what;
            tell("state", () -> x.state(each));
        }
    }
}
