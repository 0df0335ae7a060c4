/** All that an object tells, as one text: two that were treated alike tell the same. */
final class Told {
    /**
     * What is told may be changed by the asking: one thing is told ahead of another in one order and behind it in the
     * other, and in the third order only what changes the object itself.
     */
    static final int ORDERS = 3;
    private static final int FORWARD = 0, BACKWARD = 1;
    private static final int PARTS = 7;

    private final BlastFace x;
    private final StringBuilder all = new StringBuilder();

    private Told(BlastFace x) {
        this.x = x;
    }

    /** Of five HOLES and seven WIRES these are some 400 calls, so nothing can be asked behind them. */
    static String of(BlastFace x, int order) {
        Told told = new Told(x);
        if (order == FORWARD) for (int part = 0; part < PARTS; part++) told.part(part);
        if (order == BACKWARD) for (int part = PARTS - 1; part >= 0; part--) told.part(part);
        told.tapeAndImage();
        told.holes(7);
        told.wires(3);
        return told.all.toString();
    }

    /** Of an object with so many HOLES, WIRES or bytes that all would be too many calls. */
    static String inShort(BlastFace x) {
        Told told = new Told(x);
        told.counts();
        told.shots();
        told.paper();
        told.lasts();
        told.tapeAndImage();
        told.lasts();
        return told.all.toString();
    }

    private void part(int part) {
        switch (part) {
            case 0: counts(); break;
            case 1: holes(12); break;
            case 2: wires(5); break;
            case 3: thoughts(); break;
            case 4: shots(); break;
            case 5: paper(); break;
            default: lists(); break;
        }
    }

    private void put(String name) {
        all.append(all.length() > 0 ? "; " : "").append(name);
    }

    private void put(long v) {
        all.append(' ').append(v);
    }

    private void counts() {
        put("stepped");
        for (int what = 0; what < 4; what++) put(x.stepped(what));
        put("count");
        for (int what = 0; what < 7; what++) put(x.count(what));
        put("sets");
        for (int what = 0; what < 5; what++) put(x.sets(what));
    }

    private void holes(int marks) {
        for (int h = 0; h < x.count(0); h++) {
            put("HOLE");
            for (int what = 0; what < marks; what++) put(x.of(h, what));
        }
    }

    private void wires(int marks) {
        for (int w = 0; w < x.count(1); w++) {
            put("WIRE");
            for (int what = 0; what < marks; what++) put(x.wired(w, what));
        }
    }

    private void thoughts() {
        for (int h = 0; h < x.count(0); h++) {
            put("time, plan, misfire");
            for (int what = 0; what < 4; what++) put(x.time(h, what));
            put(x.plan(h));
            for (int what = 0; what < 4; what++) put(x.misfire(h, what));
        }
        put("planned");
        for (int what = 0; what < 3; what++) put(x.planned(what));
        put("critical");
        for (int what = 0; what < 2; what++) put(x.critical(what));
    }

    private void shots() {
        put("worst");
        for (int what = 0; what < 4; what++) put(x.worst(what));
        put("shots");
        for (int i = 0; i < 10; i++) {
            for (int what = 0; what < 3; what++) put(x.shot(i, what));
        }
        put("rings");
        for (int k = -1; k < 10; k++) put(x.ring(k));
    }

    private void paper() {
        put("paper");
        put(x.spell());
        for (int i = 0; i < x.spell(); i += 40) put(x.paper(i));
    }

    /** A LIST that is missing and one of no items tell the same items, so they are moved to where they are. */
    private void lists() {
        for (int list = 0; list < 4; list++) {
            put("list");
            put(x.move(list, 0, list, 0, 0));
            for (int i = 0; i < 41; i += i < 3 || i > 37 ? 1 : 5) put(x.get(list, i));
        }
    }

    /** What THE TAPE holds, by a number behind it; then what THE IMAGE holds. */
    private void tapeAndImage() {
        x.feed('9');
        put("read");
        put(x.read());
        put("WINDOW");
        put(x.count(4));
        put("undo");
        put(x.undo());
        counts();
    }

    private void lasts() {
        put("last HOLE");
        for (int what = 0; what < 12; what++) put(x.of(19, what));
        put("last WIRE");
        for (int what = 0; what < 5; what++) put(x.wired(39, what));
    }
}
