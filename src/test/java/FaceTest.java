import java.lang.reflect.Constructor;
import java.lang.reflect.Executable;
import java.lang.reflect.Field;
import java.lang.reflect.Method;
import java.lang.reflect.Modifier;
import java.util.Arrays;
import java.util.Set;
import java.util.TreeSet;

/** The public face of the document, and rule 1 of LANGUAGE.md: nothing else is to be seen. */
public final class FaceTest {
    private static final String[] METHODS = {
        "boolean method(int,int,int,int,int,int) throws NoSuchElementException,"
            + "IllegalArgumentException",
        "int add(int,int,int) throws NoSuchElementException,IllegalArgumentException,"
            + "IllegalStateException",
        "int patch(int,int,int) throws NoSuchElementException",
        "int drop(int) throws NoSuchElementException",
        "boolean good(int) throws NoSuchElementException",
        "int height(int,int) throws NoSuchElementException,IllegalStateException",
        "int type(int,int,int,int) throws NoSuchElementException,IllegalStateException",
        "void start(int,int,int,int,int) throws NoSuchElementException,IllegalArgumentException,"
            + "IllegalStateException",
        "int run(int) throws IllegalArgumentException,IllegalStateException",
        "int state(int) throws IllegalArgumentException,IllegalStateException",
        "int value(int,int) throws NoSuchElementException",
        "int cell(int,int) throws NoSuchElementException",
        "int output(int) throws NoSuchElementException",
        "int count(int) throws IllegalArgumentException",
    };

    public static void main(String[] args) throws Exception {
        Check.due("public final class", true,
                CodeJudge.class.getModifiers() == (Modifier.PUBLIC | Modifier.FINAL));
        Check.due("NONE", -1, CodeJudge.NONE);
        Constructor<?>[] made = CodeJudge.class.getDeclaredConstructors();
        Check.due("constructors", 1, made.length);
        Check.due("public constructor without parameters", true,
                Modifier.isPublic(made[0].getModifiers()) && made[0].getParameterCount() == 0);
        lookAtMethods();
        lookAtFields();
        for (Class<?> inside : CodeJudge.class.getDeclaredClasses()) {
            int seen = inside.getModifiers() & (Modifier.PUBLIC | Modifier.PROTECTED);
            Check.due(inside + " is hidden and static", true,
                    seen == 0 && Modifier.isStatic(inside.getModifiers()));
        }
        Check.end("FaceTest");
    }

    private static void lookAtMethods() {
        Set<String> due = new TreeSet<>(Arrays.asList(METHODS));
        Set<String> names = new TreeSet<>();
        for (Method method : CodeJudge.class.getDeclaredMethods()) {
            if (Modifier.isPrivate(method.getModifiers())) {
                continue;
            }
            names.add(method.getName());
            String face = method.getReturnType().getSimpleName() + " " + told(method);
            Check.due(face + " is in the face", true,
                    due.remove(face) && method.getModifiers() == Modifier.PUBLIC);
        }
        Check.due("missing in the face: " + due, 0, due.size());
        lookAtNames(CodeJudge.class, names);
        for (Class<?> inside : CodeJudge.class.getDeclaredClasses()) {
            lookAtNames(inside, names);
        }
    }

    private static void lookAtNames(Class<?> type, Set<String> names) {
        for (Method method : type.getDeclaredMethods()) {
            Check.due(method + " is named as one of the face", false,
                    !Modifier.isPublic(method.getModifiers()) && names.contains(method.getName()));
        }
    }

    private static String told(Executable call) {
        StringBuilder text = new StringBuilder(call.getName()).append('(');
        for (Class<?> type : call.getParameterTypes()) {
            text.append(text.charAt(text.length() - 1) == '(' ? "" : ",");
            text.append(type.getSimpleName());
        }
        text.append(") throws ");
        for (Class<?> type : call.getExceptionTypes()) {
            text.append(text.charAt(text.length() - 1) == ' ' ? "" : ",");
            text.append(type.getSimpleName());
        }
        return text.toString();
    }

    private static void lookAtFields() {
        for (Field field : CodeJudge.class.getDeclaredFields()) {
            boolean isNone = field.getName().equals("NONE")
                    && field.getModifiers() == (Modifier.PUBLIC | Modifier.STATIC | Modifier.FINAL);
            Check.due(field + " is NONE or private", true,
                    isNone || Modifier.isPrivate(field.getModifiers()));
        }
    }
}
