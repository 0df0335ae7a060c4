/** What is done changes what its promise tells, and nothing else of all that is kept. */
public final class DoneTest {
    private static final String HOLES = "HOLES", WIRES = "WIRES", RULES = "rules", CLOCK = "CLOCK", LISTS = "LISTS", TAPE = "THE TAPE",
        TEXTS = "TEXTS done", IMAGE = "THE IMAGE";
    private static final String[] KEPT = {HOLES, WIRES, RULES, CLOCK, LISTS, TAPE, TEXTS, IMAGE};
    private static Check check;

    private interface Call {
        long on(BlastFace x);
    }

    public static void main(String[] args) {
        Check all = new Check();
        all(all);
        all.end("DoneTest");
    }

    static void all(Check to) {
        check = to;
        changes("hole()", x -> x.hole(4, 4, 4, 44, 4, 44), HOLES, CLOCK);
        changes("becomes(): CHARGE", x -> x.becomes(0, 3, 44), HOLES, CLOCK);
        changes("becomes(): BURDEN", x -> x.becomes(0, 4, 4), HOLES, CLOCK);
        changes("becomes(): IN", x -> x.becomes(0, 5, 44), HOLES, CLOCK);
        changes("becomes(): DEAD", x -> x.becomes(0, 6, 1), HOLES, CLOCK);
        changes("wire()", x -> x.wire(-1, 1, 44), WIRES, CLOCK);
        changes("cut()", x -> x.cut(1), WIRES, CLOCK);
        changes("rule(): WINDOW", x -> x.rule(0, 44), RULES, CLOCK);
        changes("rule(): LIMIT", x -> x.rule(1, 44), RULES, CLOCK);
        changes("rule(): PACE", x -> x.rule(2, 44), RULES, CLOCK);
        changes("drop()", x -> x.drop(), HOLES, WIRES, CLOCK);
        changes("adopt()", x -> x.adopt(), HOLES, CLOCK);
        changes("feed()", x -> x.feed('4'), TAPE);
        changes("read(), a rule", x -> text(x, "4"), RULES, CLOCK, TAPE, TEXTS);
        changes("read(), a HOLE and a WIRE", x -> text(x, "20;hole 4 4 slim 4 4 4;wire 0 4 4"), HOLES, WIRES, CLOCK, TAPE, TEXTS);
        changes("step()", x -> x.step(), CLOCK);
        changes("list()", x -> x.list(0, 4), LISTS);
        changes("list(): missing", x -> x.list(1, -1), LISTS);
        changes("put()", x -> x.put(0, 0, 44), LISTS);
        changes("fill()", x -> x.fill(0, 1), LISTS);
        changes("move()", x -> x.move(0, 0, 3, 30, 3), LISTS);
        changes("image()", x -> x.image(), IMAGE);
        changes("undo()", x -> x.undo(), HOLES, WIRES, RULES, CLOCK);
        check.test("becomes(), cut(), put(): nothing else of the same kind", DoneTest::othersOfTheKind);
        check.test("adopt(): IN alone", DoneTest::adoptsInAlone);
        check.test("drop(): the others and the WIRES between them stay", DoneTest::dropsTheLastAlone);
    }

    private static int text(BlastFace x, String text) {
        return Check.text(x, text);
    }

    private static void changes(String done, Call call, String... changed) {
        check.test("changes nothing else: " + done, () -> {
            for (String kept : KEPT) {
                BlastFace x = Scene.quarry();
                check.holds("done", call.on(x) >= 0);
                String before = told(Scene.quarry(), kept);
                boolean isChanged = false;
                for (String c : changed) isChanged |= c.equals(kept);
                if (isChanged) check.holds(kept + " changed", !told(x, kept).equals(before));
                else check.due(kept, told(x, kept), before);
            }
        });
    }

    private static String told(BlastFace x, String kept) {
        StringBuilder all = new StringBuilder();
        switch (kept) {
            case HOLES: holes(x, all); break;
            case WIRES: wires(x, all); break;
            case RULES: for (int what = 4; what < 7; what++) put(all, x.count(what)); break;
            case CLOCK: put(all, x.stepped(0)); break;
            case LISTS: lists(x, all); break;
            case TAPE: tape(x, all); break;
            case TEXTS: put(all, x.count(3)); break;
            default: image(x, all); break;
        }
        return all.toString();
    }

    private static void put(StringBuilder all, long v) {
        all.append(v).append(' ');
    }

    private static void holes(BlastFace x, StringBuilder all) {
        for (int h = 0; h < x.count(0); h++) {
            for (int what = 0; what < 7; what++) put(all, x.of(h, what));
            put(all, x.of(h, 10));
        }
    }

    private static void wires(BlastFace x, StringBuilder all) {
        for (int w = 0; w < x.count(1); w++) {
            for (int what = 0; what < 3; what++) put(all, x.wired(w, what));
        }
    }

    private static void lists(BlastFace x, StringBuilder all) {
        for (int list = 0; list < 4; list++) {
            put(all, x.move(list, 0, list, 0, 0));
            for (int i = 0; i < 41; i++) put(all, x.get(list, i));
        }
    }

    /** THE TAPE holds "window ": with a number behind it it can be done. */
    private static void tape(BlastFace x, StringBuilder all) {
        put(all, x.count(2));
        Scene.feed(x, "7");
        put(all, x.read());
        put(all, x.count(4));
    }

    private static void image(BlastFace x, StringBuilder all) {
        put(all, x.undo());
        holes(x, all);
        wires(x, all);
        for (int what = 4; what < 7; what++) put(all, x.count(what));
        put(all, x.stepped(0));
    }

    private static void othersOfTheKind() {
        BlastFace x = Scene.holes(Scene.at(0, 0, 0, 1, 2, 3), Scene.at(0, 1, 0, 4, 5, 6), Scene.at(0, 2, 0, 7, 8, 9));
        x.becomes(1, 3, 44);
        x.becomes(1, 6, 1);
        int[][] want = {{1, 2, 3, 0}, {44, 5, 6, 1}, {7, 8, 9, 0}};
        for (int h = 0; h < 3; h++)
            for (int what = 3; what < 7; what++) check.due("of(" + h + ", " + what + ")", x.of(h, what), want[h][what - 3]);
        for (int w = 0; w < 3; w++) x.wire(-1, w, 10 + w);
        x.cut(1);
        check.due("the WIRE ahead", x.wired(0, 2), 10);
        check.due("the WIRE behind", x.wired(1, 2), 12);
        x.list(0, 3);
        x.list(1, 3);
        x.put(0, 1, 44);
        check.due("the same LIST", Scene.items(x, 0), "0 44 0");
        check.due("another one", Scene.items(x, 1), "0 0 0");
    }

    private static void adoptsInAlone() {
        BlastFace x = Scene.quarry();
        BlastFace before = Scene.quarry();
        check.due("adopt()", x.adopt(), 2);
        for (int h = 0; h < 4; h++) {
            for (int what = 0; what < 12; what++) {
                int want = what == 5 && h < 2 ? before.plan(h) : before.of(h, what);
                check.due("of(" + h + ", " + what + ")", x.of(h, what), want);
            }
        }
    }

    private static void dropsTheLastAlone() {
        BlastFace x = Scene.quarry();
        BlastFace before = Scene.quarry();
        check.due("drop()", x.drop(), 3);
        for (int h = 0; h < 3; h++)
            for (int what = 0; what < 12; what++) check.due("of(" + h + ", " + what + ")", x.of(h, what), before.of(h, what));
        int[] left = {0, 1, 2, 4};
        for (int w = 0; w < 4; w++)
            for (int what = 0; what < 3; what++) check.due("wired(" + w + ", " + what + ")", x.wired(w, what), before.wired(left[w], what));
        check.due("no more WIRES", x.count(1), 4);
    }
}
