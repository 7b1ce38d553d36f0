import java.util.ArrayList;
import java.util.HashSet;
import java.util.List;
import java.util.Set;
import java.util.TreeSet;

/**
 * A method, with the document's words on ways taken literally: every single way is followed, each
 * with its own stack and locals, until nothing new comes.
 */
final class PlainMethod {
    /** What each order takes and puts, but for those that depend on more than themselves. */
    private static final String[] TAKES = {"", "", "i", "", "a", "ii", "ii", "ii", "ii", "ii", "i",
        "a", "ai", "aii", "", "i", "ii", "ii", "", "a", null, null, null, null, null, "i"};
    private static final String[] PUTS = {"i", "i", "", "a", "", "i", "i", "i", "i", "i", "a",
        "i", "i", "", "", "", "", "", "a", "", null, null, null, null, null, ""};

    final String parameters;
    final String returns;
    final int locals;
    final int limit;
    final List<int[]> code = new ArrayList<>();

    boolean good;
    final List<Set<String>> stacks = new ArrayList<>();
    final List<Set<String>> localsSeen = new ArrayList<>();
    final Set<Integer> called = new TreeSet<>();

    PlainMethod(String parameters, String returns, int locals, int limit) {
        this.parameters = parameters;
        this.returns = returns;
        this.locals = locals;
        this.limit = limit;
    }

    int arrays() {
        int bits = 0;
        for (int k = 0; k < parameters.length(); k++) {
            bits |= parameters.charAt(k) == 'a' ? 1 << k : 0;
        }
        return bits;
    }

    /** A way as far as it has come. */
    private record Way(int place, String stack, String locals) {
    }

    void judge(PlainMethod[] methods) {
        stacks.clear();
        localsSeen.clear();
        called.clear();
        for (int place = 0; place < code.size(); place++) {
            stacks.add(new HashSet<>());
            localsSeen.add(new HashSet<>());
        }
        good = followAll(methods);
    }

    private boolean followAll(PlainMethod[] methods) {
        StringBuilder first = new StringBuilder(parameters);
        while (first.length() < locals) {
            first.append('-');
        }
        List<Way> open = new ArrayList<>();
        Set<Way> seen = new HashSet<>();
        open.add(new Way(0, "", first.toString()));
        while (!open.isEmpty()) {
            Way way = open.remove(open.size() - 1);
            if (way.place >= code.size()) {
                return false;
            }
            if (!seen.add(way)) {
                continue;
            }
            stacks.get(way.place).add(way.stack);
            localsSeen.get(way.place).add(way.locals);
            if (stacks.get(way.place).size() > 1 || !follow(methods, way, open)) {
                return false;
            }
        }
        return true;
    }

    private boolean follow(PlainMethod[] methods, Way way, List<Way> open) {
        int order = code.get(way.place)[0];
        int v = code.get(way.place)[1];
        String behind = behind(methods, way, order, v);
        if (behind == null || behind.length() > limit) {
            return false;
        }
        if (order == Check.RETURN) {
            return behind.isEmpty();
        }
        if (order == Check.CALL) {
            called.add(v);
        }
        String after = way.locals;
        if (order == Check.STORE || order == Check.STORE_ARRAY) {
            char type = order == Check.STORE ? 'i' : 'a';
            after = after.substring(0, v) + type + after.substring(v + 1);
        }
        if (order >= Check.GO && order <= Check.IF_SAME || order == Check.IF_NOTHING) {
            if (v < 0 || v >= code.size()) {
                return false;
            }
            open.add(new Way(v, behind, after));
        }
        if (order != Check.GO) {
            open.add(new Way(way.place + 1, behind, after));
        }
        return true;
    }

    /** The stack behind an instruction, or null if it cannot be done. */
    private String behind(PlainMethod[] methods, Way way, int order, int v) {
        String s = way.stack;
        int high = s.length();
        if (order >= Check.LOAD && order <= Check.STORE_ARRAY && (v < 0 || v >= locals)
                || order == Check.LOAD && way.locals.charAt(v) != 'i'
                || order == Check.LOAD_ARRAY && way.locals.charAt(v) != 'a') {
            return null;
        }
        switch (order) {
            case Check.DOUBLE:
                return high < 1 ? null : s + s.charAt(high - 1);
            case Check.DROP:
                return high < 1 ? null : s.substring(0, high - 1);
            case Check.TURN:
                return high < 2 ? null
                        : s.substring(0, high - 2) + s.charAt(high - 1) + s.charAt(high - 2);
            case Check.CALL:
                return v < 0 || v >= methods.length || methods[v] == null ? null
                        : changed(s, methods[v].parameters, methods[v].returns);
            case Check.RETURN:
                return changed(s, returns, "");
            default:
                return changed(s, TAKES[order], PUTS[order]);
        }
    }

    private static String changed(String stack, String takes, String puts) {
        return stack.endsWith(takes)
                ? stack.substring(0, stack.length() - takes.length()) + puts : null;
    }

    int height(int place) {
        return stacks.get(place).isEmpty() ? -1 : stacks.get(place).iterator().next().length();
    }

    int stackType(int place, int k) {
        return k >= height(place) ? -1 : typeOnAll(stacks.get(place), k);
    }

    int localType(int place, int k) {
        return localsSeen.get(place).isEmpty() ? -1 : typeOnAll(localsSeen.get(place), k);
    }

    private static int typeOnAll(Set<String> ways, int k) {
        boolean ints = true;
        boolean arrays = true;
        for (String way : ways) {
            ints &= way.charAt(k) == 'i';
            arrays &= way.charAt(k) == 'a';
        }
        return ints ? 1 : arrays ? 2 : 0;
    }
}
