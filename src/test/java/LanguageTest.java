import java.io.IOException;
import java.nio.file.Files;
import java.nio.file.Path;
import java.util.HashMap;
import java.util.List;
import java.util.Map;
import java.util.Set;
import java.util.regex.Matcher;
import java.util.regex.Pattern;

/** Rules of LANGUAGE.md that can be seen in the text of the class. */
public final class LanguageTest {
    private static final Path MAIN = Path.of("src/main/java/BlastFace.java");
    private static final Set<String> BARRED = Set.of("throw", "throws", "try", "catch", "finally", "synchronized", "assert", "package",
        "protected", "volatile", "transient", "native", "var", "Object", "hashCode", "toString", "Exception", "double", "float", "super");
    private static final Set<String> IMPORTS = Set.of("import java.util.Arrays;", "import java.util.ArrayList;", "import java.util.List;");
    private static final Set<String> LIBRARY = Set.of("Math.abs", "Math.max", "Math.min", "Integer.bitCount", "System.arraycopy",
        "Arrays.fill", "Arrays.copyOf", "Arrays.copyOfRange", "Long.MIN_VALUE");
    private static final int MOST_LINES = 60, MOST_PARAMETERS = 7, MOST_DEPTH = 8;
    private static final Set<String> NO_CALLS = Set.of("if", "for", "while", "switch", "return");

    public static void main(String[] args) throws IOException {
        Check check = new Check();
        String text = Files.readString(MAIN);
        for (int i = 0; i < text.length(); i++) {
            char c = text.charAt(i);
            if (c != '\n' && (c < 32 || c > 126)) check.holds("a plain sign at " + i, false);
        }
        String code = text.replaceAll("(?s)/\\*.*?\\*/", "").replaceAll("//[^\n]*", "").replaceAll("\"[^\"]*\"", "\"\"");
        words(check, code);
        library(check, code);
        loops(check, code);
        Map<String, String> bodies = methods(check, code);
        calls(check, bodies);
        check.end("LanguageTest");
    }

    private static void words(Check check, String code) {
        for (String word : BARRED) check.holds("6 no " + word, !Pattern.compile("\\b" + word + "\\b").matcher(code).find());
        check.holds("2 no lambda, no method reference", !code.contains("->") && !code.contains("::"));
        check.holds("5 no static block", !Pattern.compile("static\\s*\\{").matcher(code).find());
        check.holds("10 no text joined by +", !code.contains("\"\" +") && !code.contains("+ \"\""));
        for (String line : code.split("\n")) {
            if (line.startsWith("import")) check.holds("4 " + line, IMPORTS.contains(line.trim()));
            boolean isStaticField = line.contains("static") && line.contains(";") && !line.contains("(");
            if (isStaticField && !line.startsWith("import")) check.holds("5 final: " + line.trim(), line.contains(" final "));
        }
    }

    private static void library(Check check, String code) {
        Matcher m = Pattern.compile("\\b(Math|Integer|Long|System|Arrays)\\.(\\w+)").matcher(code);
        while (m.find()) check.holds("4 " + m.group(), LIBRARY.contains(m.group()));
    }

    /** A loop whose head tells no end. */
    private static void loops(Check check, String code) {
        check.holds("9 no while (true)", !Pattern.compile("while\\s*\\(\\s*true\\s*\\)").matcher(code).find());
        check.holds("9 no for without a bound", !Pattern.compile("for\\s*\\([^;)]*;\\s*;").matcher(code).find());
    }

    /** Methods by how they are set in: their head's line to the line that closes them. Their bodies, by their names. */
    private static Map<String, String> methods(Check check, String code) {
        List<String> lines = List.of(code.split("\n"));
        Pattern head = Pattern.compile("^( {4}| {8})(?:[a-zA-Z\\[\\]]+ )*(\\w+)\\(([^()]*)\\) \\{$");
        Map<String, String> bodies = new HashMap<>();
        for (int i = 0; i < lines.size(); i++) {
            Matcher m = head.matcher(lines.get(i));
            if (!m.matches()) continue;
            int end = i;
            while (end < lines.size() && !lines.get(end).equals(m.group(1) + "}")) end++;
            String body = String.join("\n", lines.subList(i + 1, Math.min(end, lines.size())));
            // calls are told apart by their names
            check.holds("one method of this name: " + m.group(2), bodies.put(m.group(2), body) == null);
            check.holds("11 short: " + lines.get(i).trim(), end - i <= MOST_LINES);
            check.holds("11 parameters: " + lines.get(i).trim(), m.group(3).split(",").length <= MOST_PARAMETERS);
        }
        check.holds("the methods were seen", bodies.size() > 100);
        return bodies;
    }

    /** How deep the calls of the face go; none goes on to itself. */
    private static void calls(Check check, Map<String, String> bodies) {
        for (String name : bodies.keySet()) {
            int depth = depth(bodies, name, 0);
            check.holds("8 and 11, calls that go " + depth + " deep: " + name, depth <= MOST_DEPTH);
        }
    }

    /** What is no method of the class is one of the library's: one call deep. One that goes on to itself is told too deep. */
    private static int depth(Map<String, String> bodies, String name, int above) {
        if (!bodies.containsKey(name) || above > MOST_DEPTH) return 1;
        int deepest = 0;
        Matcher m = Pattern.compile("(\\b(?:Math|Integer|System|Arrays)\\.)?\\b(\\w+)\\(").matcher(bodies.get(name));
        while (m.find()) {
            // Arrays.fill() is not the face's fill()
            String called = m.group(1) == null ? m.group(2) : m.group();
            if (!NO_CALLS.contains(called)) deepest = Math.max(deepest, depth(bodies, called, above + 1));
        }
        return deepest + 1;
    }
}
