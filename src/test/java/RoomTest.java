import java.lang.reflect.Array;
import java.lang.reflect.Field;
import java.lang.reflect.Modifier;
import java.util.Collections;
import java.util.IdentityHashMap;
import java.util.Set;

/** All calls live in one room: an object is small, and a call makes nothing that is kept. */
public final class RoomTest {
    private static final int CALLS = 512;
    private static final int ALL_OBJECTS = 600_000;
    private static final int ALL_ELEMENTS = 7_300_000;

    public static void main(String[] args) throws Exception {
        CodeJudge x = new CodeJudge();
        Set<Object> made = reachedFrom(x);
        long elements = elementsOf(made);
        Check.due("objects and arrays, even if each call made an object anew", true,
                (long) made.size() * CALLS < ALL_OBJECTS);
        Check.due("fields and elements, even of a thousand objects", true,
                elements * 1000 < ALL_ELEMENTS);
        use(x);
        Set<Object> kept = reachedFrom(x);
        Check.due("objects and arrays behind 512 calls", made.size(), kept.size());
        Check.due("elements behind 512 calls", elements, elementsOf(kept));
        Check.due("they are the same ones", true, made.containsAll(kept));
        Check.end("RoomTest");
    }

    private static void use(CodeJudge x) {
        for (int m = 0; m < 8; m++) {
            x.method(m, 2, 2, 1, 10, 15);
            Check.write(x, m, "LOAD 0, OUT, CONSTANT 3, NEW, STORE_ARRAY 5, LOAD 0, CONSTANT 1, "
                    + "ADD, LOAD_ARRAY 5, CALL " + (m + 1) % 8 + ", RETURN");
        }
        for (int i = 8 * 12; i + 8 <= CALLS; i += 8) {
            x.start(i % 8, i, 400, 0, 0);
            x.run(2000);
            x.good(i % 8);
            x.height(i % 8, 9);
            x.type(i % 8, 9, 1, 5);
            x.count(2);
            x.value(1, 0);
            x.output(0);
        }
    }

    private static Set<Object> reachedFrom(Object first) throws Exception {
        Set<Object> reached = Collections.newSetFromMap(new IdentityHashMap<>());
        gather(first, reached);
        return reached;
    }

    private static void gather(Object object, Set<Object> reached) throws Exception {
        if (object == null || !reached.add(object)) {
            return;
        }
        if (object instanceof Object[] row) {
            for (Object element : row) {
                gather(element, reached);
            }
        } else if (!object.getClass().isArray()) {
            for (Field field : object.getClass().getDeclaredFields()) {
                if (!Modifier.isStatic(field.getModifiers()) && !field.getType().isPrimitive()) {
                    field.setAccessible(true);
                    gather(field.get(object), reached);
                }
            }
        }
    }

    private static long elementsOf(Set<Object> objects) {
        long sum = 0;
        for (Object object : objects) {
            sum += object.getClass().isArray() ? Array.getLength(object)
                    : object.getClass().getDeclaredFields().length;
        }
        return sum;
    }
}
