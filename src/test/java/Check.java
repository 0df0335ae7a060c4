import java.util.HashSet;
import java.util.Set;

/** Counts answers that are not as due, and tells each. */
final class Check {
    private static final int MOST_TOLD = 50;
    private final Set<String> sentences = new HashSet<>();
    private final Set<String> broken = new HashSet<>();
    private String sentence = "";
    private int seen;
    private int wrong;

    void due(String call, long got, long want) {
        seen++;
        if (got != want) fault(call + " answered " + got + ", due is " + want);
    }

    void due(String call, String got, String want) {
        seen++;
        if (!got.equals(want)) fault(call + " answered\n    " + got + "\n  due is\n    " + want);
    }

    void holds(String what, boolean is) {
        due(what, is ? 1 : 0, 1);
    }

    /** The test of one sentence of the document: each has one, and each looks at something. */
    void test(String sentence, Runnable body) {
        this.sentence = sentence + " | ";
        holds("the only test of this sentence", sentences.add(sentence));
        int before = seen;
        int wrongBefore = wrong;
        try {
            body.run();
        } catch (RuntimeException e) {
            fault("threw " + e);
        }
        holds("something was looked at", seen > before);
        if (wrong > wrongBefore) broken.add(sentence);
        this.sentence = "";
    }

    private void fault(String told) {
        wrong++;
        if (wrong <= MOST_TOLD) System.out.println(sentence + told);
    }

    boolean isClean() {
        return wrong == 0;
    }

    /** The sentences whose tests failed. */
    Set<String> broken() {
        return broken;
    }

    /** The sentences that were tested. */
    Set<String> sentences() {
        return sentences;
    }

    /** Ends the test: exit code 1, if an answer was wrong or none was looked at. */
    void end(String test) {
        String told = sentences.isEmpty() ? "" : sentences.size() + " sentences, " + broken.size() + " broken; ";
        System.out.println(test + ": " + told + seen + " answers looked at, " + wrong + " wrong");
        if (wrong != 0 || seen == 0) System.exit(1);
    }

    /** Lays a text on THE TAPE and reads it. */
    static int text(BlastFace x, String text) {
        for (int i = 0; i < text.length(); i++) x.feed(text.charAt(i));
        return x.read();
    }

    static String paperOf(BlastFace x) {
        StringBuilder all = new StringBuilder();
        int n = x.spell();
        for (int i = 0; i < n; i++) all.append((char) x.paper(i));
        return all.toString();
    }
}
