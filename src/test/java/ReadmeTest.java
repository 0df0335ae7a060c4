import java.io.IOException;
import java.lang.reflect.InvocationTargetException;
import java.lang.reflect.Method;
import java.lang.reflect.Modifier;
import java.nio.file.Files;
import java.nio.file.Path;
import java.util.HashMap;
import java.util.Map;
import java.util.regex.Matcher;
import java.util.regex.Pattern;

/** What README.md shows is so: its examples are played line by line, each answer is the one that stands behind it. */
public final class ReadmeTest {
    private static final Pattern MADE = Pattern.compile("BlastFace x = new BlastFace\\(\\);");
    private static final Pattern FED = Pattern.compile("for \\(char c : \"([^\"]*)\"\\.toCharArray\\(\\)\\) x\\.feed\\(c\\);");
    private static final Pattern CALL = Pattern.compile("(?:int (\\w+) = )?x\\.(\\w+)\\(([^()]*)\\); +// (-?\\d+)(?:: .*)?");

    private final Check check = new Check();
    private final Map<String, Method> face = new HashMap<>();
    private final Map<String, Long> numbers = new HashMap<>();
    private BlastFace x = new BlastFace();
    private int played;

    public static void main(String[] args) throws IOException, ReflectiveOperationException {
        new ReadmeTest().go(Files.readString(Path.of("README.md")));
    }

    private void go(String text) throws ReflectiveOperationException {
        for (Method m : BlastFace.class.getDeclaredMethods()) {
            if (!Modifier.isPublic(m.getModifiers())) continue;
            face.put(m.getName(), m);
            check.holds("README.md names " + m.getName(), text.contains("`" + m.getName() + "`"));
        }
        Matcher examples = Pattern.compile("(?s)```java\n(.*?)```").matcher(text);
        while (examples.find()) {
            for (String line : examples.group(1).split("\n")) play(line);
        }
        check.holds("examples were played", played > 0);
        check.end("ReadmeTest");
    }

    private void play(String line) throws ReflectiveOperationException {
        Matcher fed = FED.matcher(line);
        Matcher call = CALL.matcher(line);
        if (MADE.matcher(line).matches()) {
            x = new BlastFace();
            numbers.clear();
        } else if (fed.matches()) {
            Scene.feed(x, fed.group(1));
        } else if (call.matches() && face.containsKey(call.group(2))) {
            long got = answer(face.get(call.group(2)), call.group(3));
            check.due(line, got, Long.parseLong(call.group(4)));
            if (call.group(1) != null) numbers.put(call.group(1), got);
            played++;
        } else {
            check.holds("a line that can be played: " + line, false);
        }
    }

    private long answer(Method m, String told) throws IllegalAccessException, InvocationTargetException {
        String[] words = told.isEmpty() ? new String[0] : told.split(", ");
        Object[] arguments = new Object[words.length];
        for (int i = 0; i < words.length; i++) {
            long v = numbers.containsKey(words[i]) ? numbers.get(words[i]) : Long.parseLong(words[i]);
            if (m.getParameterTypes()[i] == long.class) arguments[i] = v;
            else arguments[i] = (int) v;
        }
        return ((Number) m.invoke(x, arguments)).longValue();
    }
}
