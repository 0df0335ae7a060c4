import java.io.IOException;
import java.nio.file.Files;
import java.nio.file.Path;
import java.util.List;
import java.util.Set;
import java.util.regex.Matcher;
import java.util.regex.Pattern;

/** Rules of LANGUAGE.md that can be seen in the text of the class. */
public final class LanguageTest {
    private static final Path MAIN = Path.of("src/main/java/BlastFace.java");
    private static final Set<String> BARRED = Set.of("throw", "throws", "try", "catch", "finally", "synchronized", "assert", "package",
        "protected", "volatile", "transient", "native", "var", "Object", "hashCode", "toString", "Exception", "double", "float", "super");
    private static final Set<String> IMPORTS = Set.of("import java.util.Arrays;", "import java.util.ArrayList;", "import java.util.List;");
    private static final Set<String> LIBRARY = Set.of("Math.abs", "Math.max", "Math.min", "Integer.bitCount", "System.arraycopy",
        "Arrays.fill", "Arrays.copyOf", "Arrays.copyOfRange", "Long.MIN_VALUE");
    private static final int MOST_LINES = 60, MOST_PARAMETERS = 7;

    public static void main(String[] args) throws IOException {
        Check check = new Check();
        String text = Files.readString(MAIN);
        for (int i = 0; i < text.length(); i++) {
            char c = text.charAt(i);
            if (c != '\n' && (c < 32 || c > 126)) check.holds("a plain sign at " + i, false);
        }
        String code = text.replaceAll("(?s)/\\*.*?\\*/", "").replaceAll("//[^\n]*", "").replaceAll("\"[^\"]*\"", "\"\"");
        words(check, code);
        library(check, code);
        methods(check, code);
        check.end("LanguageTest");
    }

    private static void words(Check check, String code) {
        for (String word : BARRED) check.holds("6 no " + word, !Pattern.compile("\\b" + word + "\\b").matcher(code).find());
        check.holds("2 no lambda, no method reference", !code.contains("->") && !code.contains("::"));
        check.holds("5 no static block", !Pattern.compile("static\\s*\\{").matcher(code).find());
        check.holds("10 no text joined by +", !code.contains("\"\" +") && !code.contains("+ \"\""));
        for (String line : code.split("\n")) {
            if (line.startsWith("import")) check.holds("4 " + line, IMPORTS.contains(line.trim()));
            boolean isStaticField = line.contains("static") && line.contains(";") && !line.contains("(");
            if (isStaticField && !line.startsWith("import")) check.holds("5 final: " + line.trim(), line.contains(" final "));
        }
    }

    private static void library(Check check, String code) {
        Matcher m = Pattern.compile("\\b(Math|Integer|Long|System|Arrays)\\.(\\w+)").matcher(code);
        while (m.find()) check.holds("4 " + m.group(), LIBRARY.contains(m.group()));
    }

    /** Methods by how they are set in: their head's line to the line that closes them. */
    private static void methods(Check check, String code) {
        List<String> lines = List.of(code.split("\n"));
        Pattern head = Pattern.compile("^( {4}| {8})(?:[a-zA-Z\\[\\]]+ )+\\w+\\(([^()]*)\\) \\{$|^( {4}| {8})(?:[a-zA-Z\\[\\]]+ )*[A-Z]\\w+\\(([^()]*)\\) \\{$");
        int found = 0;
        for (int i = 0; i < lines.size(); i++) {
            Matcher m = head.matcher(lines.get(i));
            if (!m.matches()) continue;
            found++;
            String indent = m.group(1) != null ? m.group(1) : m.group(3);
            String parameters = m.group(2) != null ? m.group(2) : m.group(4);
            int end = i;
            while (end < lines.size() && !lines.get(end).equals(indent + "}")) end++;
            check.holds("11 short: " + lines.get(i).trim(), end - i <= MOST_LINES);
            check.holds("11 parameters: " + lines.get(i).trim(), parameters.split(",").length <= MOST_PARAMETERS);
        }
        check.holds("the methods were seen", found > 100);
    }
}
