import java.lang.reflect.InvocationTargetException;
import java.lang.reflect.Method;
import java.nio.file.Files;
import java.nio.file.Path;
import java.util.regex.Matcher;
import java.util.regex.Pattern;

/** The calls in README.md answer what stands behind them there. */
public final class ReadmeTest {
    private static final String MADE = "CodeJudge x = new CodeJudge();";
    private static final Pattern CALL = Pattern.compile("x\\.(\\w+)\\(([-0-9, ]+)\\); +// *(.*)");
    private static final Pattern ANSWER =
            Pattern.compile("(-?[0-9]+|true|false|throws \\w+): .*");

    public static void main(String[] args) throws Exception {
        CodeJudge x = new CodeJudge();
        for (String line : Files.readAllLines(Path.of("README.md"))) {
            if (line.equals(MADE)) {
                x = new CodeJudge();
            } else if (line.startsWith("x.")) {
                look(x, line);
            }
        }
        Check.end("ReadmeTest");
    }

    private static void look(CodeJudge x, String line) throws Exception {
        Matcher call = CALL.matcher(line);
        if (!call.matches()) {
            Check.due("a call that can be read: " + line, true, false);
            return;
        }
        Matcher told = ANSWER.matcher(call.group(3));
        String due = told.matches() ? told.group(1) : "anything but an exception";
        String got = made(x, call.group(1), call.group(2).split(", "));
        boolean isDue = told.matches() ? got.equals(due) : !got.startsWith("throws");
        Check.due(line + " answered " + got + ": as due", true, isDue);
    }

    private static String made(CodeJudge x, String name, String[] numbers) throws Exception {
        Class<?>[] types = new Class<?>[numbers.length];
        Object[] values = new Object[numbers.length];
        for (int i = 0; i < numbers.length; i++) {
            types[i] = int.class;
            values[i] = Integer.valueOf(numbers[i]);
        }
        Method call = CodeJudge.class.getMethod(name, types);
        try {
            return String.valueOf(call.invoke(x, values));
        } catch (InvocationTargetException e) {
            return "throws " + e.getCause().getClass().getSimpleName();
        }
    }
}
