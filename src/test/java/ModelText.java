import java.util.ArrayList;
import java.util.List;
import java.util.regex.Matcher;
import java.util.regex.Pattern;

/** A TEXT by regular expressions: cut into TOKENS first, all of them, then matched with forms. */
final class ModelText {
    record Statement(String verb, int place, int[] values) {}

    private static final Pattern TOKEN = Pattern.compile("[a-z]+|[0-9]+|;|[^ ]", Pattern.DOTALL);
    private static final List<String> KINDS = List.of("hole", "slim", "deck", "heavy", "buffer", "dummy");
    private static final String N = "[0-9]{1,4}";
    private static final String KIND = String.join("|", KINDS);

    final List<Statement> statements = new ArrayList<>();
    int fault = -1;

    ModelText(String text) {
        List<String> words = new ArrayList<>();
        List<Integer> places = new ArrayList<>();
        Matcher m = TOKEN.matcher(text);
        while (m.find()) {
            words.add(m.group());
            places.add(m.start());
        }
        words.add("");
        places.add(text.length());
        int at = 0;
        while (true) {
            String[] form = formOf(words.get(at));
            if (form == null) {
                fault = places.get(at);
                return;
            }
            int[] values = new int[form.length];
            int begin = at;
            for (int i = 0; i < form.length; i++) {
                at++;
                if (!words.get(at).matches(form[i])) {
                    fault = places.get(at);
                    return;
                }
                values[i] = valueOf(words.get(at));
            }
            statements.add(new Statement(words.get(begin), places.get(begin), values));
            at++;
            if (words.get(at).isEmpty()) return;
            if (!words.get(at).equals(";")) {
                fault = places.get(at);
                return;
            }
            at++;
        }
    }

    private static String[] formOf(String verb) {
        switch (verb) {
            case "hole": return new String[] {N, N, KIND, N, N, N};
            case "wire": return new String[] {"start|" + N, N, N};
            case "window": case "limit": case "pace": case "dead": return new String[] {N};
            default: return null;
        }
    }

    private static int valueOf(String word) {
        if (word.equals("start")) return -1;
        return KINDS.contains(word) ? KINDS.indexOf(word) : Integer.parseInt(word);
    }
}
