import java.nio.file.Files;
import java.nio.file.Path;
import java.util.ArrayList;
import java.util.List;
import java.util.Set;
import java.util.regex.Matcher;
import java.util.regex.Pattern;

/** The rules of LANGUAGE.md that can be read off the text of the class; FaceTest has rule 1. */
public final class LanguageTest {
    private static final Path CLASS = Path.of("src/main/java/CodeJudge.java");
    private static final Set<String> IMPORTS = Set.of("java.util.NoSuchElementException");
    private static final Set<String> LIBRARY = Set.of("Math.floorMod",
            "Integer.numberOfTrailingZeros");
    private static final Set<String> THROWN = Set.of("NoSuchElementException",
            "IllegalArgumentException", "IllegalStateException");
    private static final String[] RULED_OUT = {"->", "::", "\\btry\\b", "\\bcatch\\b",
        "\\bfinally\\b", "\\bsynchronized\\b", "\\bassert\\b", "\\bvolatile\\b", "\\bnative\\b",
        "\\bpackage\\b", "\\bprotected\\b", "\\bstatic \\{", "\\bdouble\\b", "\\bfloat\\b",
        "\\bSystem\\b", "\\bThread\\b", "\\bwhile \\(true\\)", "\\bfor \\(;;\\)"};

    public static void main(String[] args) throws Exception {
        List<String> lines = new ArrayList<>();
        for (String line : Files.readAllLines(CLASS)) {
            boolean isComment = line.strip().startsWith("*") || line.strip().startsWith("/**");
            lines.add(isComment ? "" : line.replaceFirst("//.*", ""));
        }
        String text = String.join("\n", lines);
        for (String ruledOut : RULED_OUT) {
            Check.due("found: " + ruledOut, false, Pattern.compile(ruledOut).matcher(text).find());
        }
        areAmong("rule 4, import", IMPORTS, "import ([\\w.*]+);", text);
        areAmong("rule 4, library", LIBRARY, "\\b((?:Math|Integer|Long|Arrays)\\.\\w+)", text);
        areAmong("rule 6, throw", THROWN, "throw (?:new )?(\\w+)", text);
        lookAtStatics(lines);
        lookAtMethods(lines);
        lookAtClasses(lines);
        Check.end("LanguageTest");
    }

    private static void areAmong(String rule, Set<String> allowed, String pattern, String text) {
        Matcher found = Pattern.compile(pattern).matcher(text);
        while (found.find()) {
            Check.due(rule + " " + found.group(1), true, allowed.contains(found.group(1)));
        }
    }

    /** Rule 5: a static field is final. */
    private static void lookAtStatics(List<String> lines) {
        for (String line : lines) {
            if (line.matches(".*\\bstatic\\b.*;") && !line.contains("(")) {
                Check.due("rule 5: " + line.strip(), true, line.contains("static final int "));
            }
        }
    }

    /** Rule 11: some sixty lines, and at most seven parameters. */
    private static void lookAtMethods(List<String> lines) {
        Pattern head = Pattern.compile("( {4}| {8})\\w[^=;]* \\w+\\((.*)");
        for (int i = 0; i < lines.size(); i++) {
            Matcher begun = head.matcher(lines.get(i));
            if (begun.matches()) {
                int end = lines.subList(i, lines.size()).indexOf(begun.group(1) + "}");
                Check.due("rule 11, lines: " + lines.get(i).strip(), true, end > 0 && end <= 60);
                Check.due("rule 11, parameters: " + lines.get(i).strip(), true,
                        begun.group(2).split(",").length <= 7);
            }
        }
    }

    /** Rule 11: some twelve classes; rule 2: those inside are static. */
    private static void lookAtClasses(List<String> lines) {
        int classes = 0;
        for (String line : lines) {
            if (line.matches(" *[\\w ]*\\bclass \\w+.*")) {
                classes++;
                boolean isOuter = line.startsWith("public final class ");
                Check.due("rule 2: " + line.strip(), true,
                        isOuter || line.contains(" static final class "));
            }
        }
        Check.due("rule 11: at most twelve classes", true, classes > 0 && classes <= 12);
    }
}
