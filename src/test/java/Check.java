/** Counts answers that are not as due, and tells each. */
final class Check {
    private int seen;
    private int wrong;

    void due(String call, long got, long want) {
        seen++;
        if (got == want) return;
        wrong++;
        if (wrong <= 50) System.out.println(call + " answered " + got + ", due is " + want);
    }

    void holds(String what, boolean is) {
        due(what, is ? 1 : 0, 1);
    }

    boolean isClean() {
        return wrong == 0;
    }

    /** Ends the test: exit code 1, if an answer was wrong or none was looked at. */
    void end(String test) {
        System.out.println(test + ": " + seen + " answers looked at, " + wrong + " wrong");
        if (wrong != 0 || seen == 0) System.exit(1);
    }

    /** Lays a text on THE TAPE and reads it. */
    static int text(BlastFace x, String text) {
        for (int i = 0; i < text.length(); i++) x.feed(text.charAt(i));
        return x.read();
    }

    static String paperOf(BlastFace x) {
        StringBuilder all = new StringBuilder();
        int n = x.spell();
        for (int i = 0; i < n; i++) all.append((char) x.paper(i));
        return all.toString();
    }
}
