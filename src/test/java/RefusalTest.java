/** Terms 6, "Answers": what is refused changes nothing, THE TAPE, as told, apart; what is asked changes nothing. */
public final class RefusalTest {
    private static final int NONE = Scene.NONE, BAD = Scene.BAD, STATE = Scene.STATE, FULL = Scene.FULL;
    private static final int MISSING = Scene.MISSING, OUTSIDE = Scene.OUTSIDE, SIZE = Scene.SIZE;
    private static final int LOW = Scene.LOW, HIGH = Scene.HIGH;
    private static final String REFUSED = "Answers: what is answered so changes nothing: ";
    private static Check check;

    private interface Call {
        long on(BlastFace x);
    }

    private interface Scenery {
        BlastFace make();
    }

    public static void main(String[] args) {
        Check all = new Check();
        all(all);
        all.end("RefusalTest");
    }

    static void all(Check to) {
        check = to;
        refusedHoles();
        refusedWires();
        refusedTexts();
        refusedLists();
        refusedByState();
        refusedByRoom();
        asked();
        askedInThought();
    }

    private static void refused(String sentence, int answer, Call... calls) {
        check.test(REFUSED + sentence, () -> {
            for (int i = 0; i < calls.length; i++) isRefused("call " + i, Scene::quarry, answer, calls[i]);
        });
    }

    /** A call on what was made, and all that is told behind it, in each order. */
    private static void isRefused(String call, Scenery scenery, int answer, Call refused) {
        for (int order = 0; order < Told.ORDERS; order++) {
            BlastFace x = scenery.make();
            due(call, refused.on(x), answer);
            check.due("all behind " + call, Told.of(x, order), Told.of(scenery.make(), order));
        }
    }

    private static void refusedHoles() {
        refused("hole(): BAD", BAD,
            x -> x.hole(-1, 0, 0, 1, 1, 0), x -> x.hole(5, 0, 0, 1, 1, 0), x -> x.hole(0, -1, 0, 1, 1, 0), x -> x.hole(0, 10, 0, 1, 1, 0),
            x -> x.hole(0, 0, -1, 1, 1, 0), x -> x.hole(0, 0, 6, 1, 1, 0), x -> x.hole(0, 0, 0, 0, 1, 0), x -> x.hole(0, 0, 0, 100, 1, 0),
            x -> x.hole(0, 0, 0, 1, 0, 0), x -> x.hole(0, 0, 0, 1, 21, 0), x -> x.hole(0, 0, 0, 1, 1, -1), x -> x.hole(0, 0, 0, 1, 1, 1000));
        refused("hole(): STATE", STATE, x -> x.hole(0, 2, 5, 99, 20, 999), x -> x.hole(1, 3, 0, 1, 1, 0));
        refused("becomes(): NONE", NONE, x -> x.becomes(-1, 3, 1), x -> x.becomes(4, 3, 1), x -> x.becomes(HIGH, 6, 1));
        refused("becomes(): BAD", BAD,
            x -> x.becomes(0, 3, 0), x -> x.becomes(0, 3, 100), x -> x.becomes(0, 4, 0), x -> x.becomes(0, 4, 21), x -> x.becomes(0, 5, -1),
            x -> x.becomes(0, 5, 1000), x -> x.becomes(0, 6, -1), x -> x.becomes(0, 6, 2), x -> x.becomes(0, 2, 1), x -> x.becomes(0, 7, 1),
            x -> x.becomes(0, 0, 4), x -> x.becomes(0, 1, 9), x -> x.becomes(0, 8, 1), x -> x.becomes(0, LOW, 1));
    }

    private static void refusedWires() {
        refused("wire(): NONE", NONE, x -> x.wire(-2, 0, 0), x -> x.wire(4, 0, 0), x -> x.wire(0, -1, 0), x -> x.wire(0, 4, 0),
            x -> x.wire(0, 0, 0), x -> x.wire(3, 3, 500), x -> x.wire(-1, -1, 0));
        refused("wire(): BAD", BAD, x -> x.wire(-1, 0, -1), x -> x.wire(-1, 0, 501), x -> x.wire(0, 3, HIGH), x -> x.wire(0, 3, LOW));
        refused("cut(): NONE", NONE, x -> x.cut(-1), x -> x.cut(5), x -> x.cut(HIGH), x -> x.cut(LOW));
        refused("rule(): NONE", NONE, x -> x.rule(-1, 9), x -> x.rule(3, 9), x -> x.rule(HIGH, 9), x -> x.rule(LOW, 9));
        refused("rule(): BAD", BAD, x -> x.rule(0, 0), x -> x.rule(0, 100), x -> x.rule(1, 0), x -> x.rule(1, 10000),
            x -> x.rule(2, 4), x -> x.rule(2, 100), x -> x.rule(0, HIGH), x -> x.rule(1, LOW));
    }

    private static void refusedTexts() {
        refused("feed(): BAD", BAD, x -> x.feed(-1), x -> x.feed(128), x -> x.feed(HIGH), x -> x.feed(LOW));
        readsInVain("read(): a FAULT", -100 - 70, "x");
        readsInVain("read(): a FAULT at the end", -100 - 71, ";");
        readsInVain("read(): a FAULT of kind 2", -300 - 64, "");
    }

    /** A text of which all but the last STATEMENT could be done: THE TAPE is empty behind it, all else is as it was. */
    private static void readsInVain(String sentence, int answer, String tail) {
        String ahead = "hole 4 4 deck 1 1 1;wire 4 0 1;dead 4;dead 0;limit 1;window 1;  ";
        check.test("Answers: THE TAPE, as told, apart: " + sentence,
            () -> isRefused("read()", RefusalTest::emptyTape, answer, x -> Check.text(x, ahead + "pace 4" + tail)));
    }

    private static BlastFace emptyTape() {
        BlastFace x = Scene.quarry();
        x.read();
        return x;
    }

    private static void due(String call, long got, long want) {
        check.due(call, got, want);
    }

    private static void refusedLists() {
        refused("list(): NONE", NONE, x -> x.list(-1, 1), x -> x.list(4, 1), x -> x.list(HIGH, -1));
        refused("list(): BAD", BAD, x -> x.list(0, 41), x -> x.list(2, 41), x -> x.list(3, HIGH));
        refused("list(): SIZE", SIZE, x -> x.list(0, -2), x -> x.list(2, -2), x -> x.list(3, LOW));
        refused("put(): NONE", NONE, x -> x.put(-1, 0, 7), x -> x.put(4, 0, 7));
        refused("put(): MISSING", MISSING, x -> x.put(2, 0, 7), x -> x.put(2, -1, 7));
        refused("put(): OUTSIDE", OUTSIDE, x -> x.put(0, 3, 7), x -> x.put(0, -1, 7), x -> x.put(1, 0, 7), x -> x.put(3, 40, 7));
        refused("fill(): NONE", NONE, x -> x.fill(-1, 0), x -> x.fill(4, 0), x -> x.fill(0, -1), x -> x.fill(0, 3));
        refused("fill(): MISSING", MISSING, x -> x.fill(2, 0), x -> x.fill(2, 2));
        refused("move(): NONE", NONE, x -> x.move(-1, 0, 0, 0, 1), x -> x.move(0, 0, 4, 0, 1));
        refused("move(): MISSING", MISSING, x -> x.move(2, 0, 0, 0, 1), x -> x.move(0, 0, 2, 0, 1));
        refused("move(): OUTSIDE", OUTSIDE, x -> x.move(3, 0, 0, 0, 4), x -> x.move(0, 0, 3, 38, 3), x -> x.move(0, 1, 3, 0, 3),
            x -> x.move(0, -1, 3, 0, 2), x -> x.move(0, 0, 3, -1, 2), x -> x.move(0, 0, 3, 0, -1), x -> x.move(3, HIGH, 0, 0, 1));
    }

    private static void refusedByState() {
        check.test(REFUSED + "step(): STATE", () -> {
            isRefused("step() behind the last", RefusalTest::steppedToTheEnd, STATE, x -> x.step());
            isRefused("step() on nothing", BlastFace::new, STATE, x -> x.step());
        });
        check.test(REFUSED + "drop(): STATE", () -> isRefused("drop() on nothing", BlastFace::new, STATE, x -> x.drop()));
        check.test(REFUSED + "undo(): STATE", () -> {
            isRefused("undo() on nothing", BlastFace::new, STATE, x -> x.undo());
            isRefused("undo() without an image", RefusalTest::noImage, STATE, x -> x.undo());
        });
    }

    private static BlastFace steppedToTheEnd() {
        BlastFace x = Scene.quarry();
        for (int i = x.worst(3) - x.stepped(0); i > 0; i--) x.step();
        return x;
    }

    private static BlastFace noImage() {
        BlastFace x = Scene.started(Scene.at(0, 0, 0), Scene.at(1, 0, 1));
        x.rule(0, 5);
        x.step();
        return x;
    }

    private static void refusedByRoom() {
        check.test(REFUSED + "hole(): FULL", () -> isFull(full(), full(), x -> x.hole(4, 9, 0, 1, 1, 0)));
        check.test(REFUSED + "wire(): FULL", () -> isFull(full(), full(), x -> x.wire(3, 4, 5)));
        check.test(REFUSED + "feed(): FULL", () -> isFull(full(), full(), x -> x.feed('x')));
    }

    private static void isFull(BlastFace x, BlastFace before, Call call) {
        due("no room", call.on(x), FULL);
        check.due("all behind it", Told.inShort(x), Told.inShort(before));
    }

    /** 20 HOLES, 40 WIRES, 80 bytes, CLOCK 1. */
    private static BlastFace full() {
        BlastFace x = Scene.twenty(2, 9);
        for (int i = 0; i < 40; i++) x.wire(i % 20 - 1, i % 20, i);
        x.step();
        x.image();
        x.step();
        Scene.feed(x, "window 9" + " ".repeat(72));
        return x;
    }

    private static void changesNothing(String call, Call... calls) {
        check.test("Answers: what is asked changes nothing: " + call, () -> {
            for (int order = 0; order < Told.ORDERS; order++) {
                String before = Told.of(Scene.quarry(), order);
                for (int i = 0; i < calls.length; i++) {
                    BlastFace x = Scene.quarry();
                    calls[i].on(x);
                    check.due("all behind call " + i, Told.of(x, order), before);
                }
            }
        });
    }

    private static void asked() {
        changesNothing("of()", x -> x.of(0, 3), x -> x.of(3, 10), x -> x.of(4, 0), x -> x.of(0, 12));
        changesNothing("taken()", x -> x.taken(3, 1), x -> x.taken(3, 2), x -> x.taken(9, 0), x -> x.taken(0, 9));
        changesNothing("wired()", x -> x.wired(0, 3), x -> x.wired(1, 4), x -> x.wired(9, 0), x -> x.wired(0, 9));
        changesNothing("time()", x -> x.time(0, 0), x -> x.time(1, 3), x -> x.time(3, 1), x -> x.time(9, 0));
        changesNothing("shot()", x -> x.shot(0, 0), x -> x.shot(4, 2), x -> x.shot(99, 0));
        changesNothing("shake()", x -> x.shake(0), x -> x.shake(99999), x -> x.shake(-1), x -> x.shake(100000));
        changesNothing("worst()", x -> x.worst(0), x -> x.worst(2), x -> x.worst(9));
        changesNothing("safe()", x -> x.safe(1), x -> x.safe(1000), x -> x.safe(0));
        changesNothing("ring()", x -> x.ring(-1), x -> x.ring(9), x -> x.ring(10));
        changesNothing("sets()", x -> x.sets(0), x -> x.sets(4), x -> x.sets(5));
        changesNothing("loads()", x -> x.loads(4, 0, 1, 2, 3), x -> x.loads(5, 0, 0, 0, 0), x -> x.loads(1, 9, 0, 0, 0));
        changesNothing("critical()", x -> x.critical(0), x -> x.critical(1), x -> x.critical(2));
        changesNothing("spell()", x -> x.spell());
        changesNothing("paper()", x -> x.paper(0), x -> x.paper(30), x -> x.paper(-1), x -> x.paper(999));
        changesNothing("stepped()", x -> x.stepped(0), x -> x.stepped(3), x -> x.stepped(4));
        changesNothing("get()", x -> x.get(0, 2), x -> x.get(2, 0), x -> x.get(0, 3), x -> x.get(4, 0));
        changesNothing("judge()", x -> x.judge(0, 2), x -> x.judge(3, 2), x -> x.judge(2, 0), x -> x.judge(0, 3), x -> x.judge(3, 0));
        changesNothing("count()", x -> x.count(0), x -> x.count(6), x -> x.count(7));
    }

    private static void askedInThought() {
        changesNothing("misfire()", x -> x.misfire(0, 0), x -> x.misfire(1, 1), x -> x.misfire(2, 2), x -> x.misfire(3, 3), x -> x.misfire(9, 0));
        changesNothing("broken()", x -> x.broken(0, 0), x -> x.broken(1, 1), x -> x.broken(2, 2), x -> x.broken(4, 3), x -> x.broken(9, 0));
        changesNothing("plan()", x -> x.plan(0), x -> x.plan(2), x -> x.plan(3), x -> x.plan(9));
        changesNothing("planned()", x -> x.planned(0), x -> x.planned(1), x -> x.planned(2), x -> x.planned(3));
        check.test("4: in thought: what is asked in between is as things are", () -> {
            BlastFace x = Scene.quarry();
            long fires = x.sets(0);
            x.misfire(0, 0);
            due("FIRES behind misfire()", x.sets(0), fires);
            x.broken(0, 2);
            due("FIRES behind broken()", x.sets(0), fires);
            int worst = x.worst(0);
            x.broken(0, 2);
            due("WORST behind broken()", x.worst(0), worst);
            x.planned(2);
            due("WORST behind planned()", x.worst(0), worst);
            int plan = x.plan(2);
            x.misfire(0, 3);
            due("PLAN behind misfire()", x.plan(2), plan);
        });
    }
}
