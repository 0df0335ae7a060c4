/** Edges of what is done in thought, MISFIRES, BROKEN WIRES and PLAN: terms 4, promises 19 to 24. */
public final class ThoughtEdgesTest {
    private static final int NONE = Scene.NONE, STATE = Scene.STATE;
    private static final int LOW = Scene.LOW, HIGH = Scene.HIGH;
    private static final int LOST = 0, BARED = 1, WORST = 2, OVER = 3;
    private static Check check;

    public static void main(String[] args) {
        Check all = new Check();
        all(all);
        all.end("ThoughtEdgesTest");
    }

    static void all(Check to) {
        check = to;
        misfires();
        brokenWires();
        criticalOnes();
        plans();
        planEnds();
        answers();
    }

    private static void due(String call, long got, long want) {
        check.due(call, got, want);
    }

    private static void misfires() {
        check.test("4: MISFIRE: of one that is DEAD already nothing is otherwise", ThoughtEdgesTest::misfireOfDead);
        check.test("4: LOST: who FIRES now (the one MISFIRING not counted) and doesn't then", ThoughtEdgesTest::lost);
        check.test("4: BARED: who is BURIED then, but isn't now", ThoughtEdgesTest::bared);
        check.test("4: in thought: nothing is otherwise behind it", ThoughtEdgesTest::inThought);
        check.test("Promise 19: WORST then, OVER then", ThoughtEdgesTest::misfireShakes);
        check.test("Promise 19: NONE: hole, what", ThoughtEdgesTest::misfireNone);
    }

    /** 0 starts 1, 1 starts 2; 3 and 4 of ROW 1 stand behind 0 and 2, with WIRES of their own. */
    private static BlastFace row() {
        BlastFace x = Scene.holes(Scene.at(0, 0, 0), Scene.at(0, 4, 0), Scene.at(0, 8, 0), Scene.at(1, 0, 50), Scene.at(1, 8, 50));
        x.wire(-1, 0, 0);
        x.wire(0, 1, 10);
        x.wire(1, 2, 10);
        x.wire(-1, 3, 0);
        x.wire(-1, 4, 0);
        return x;
    }

    private static void misfireOfDead() {
        BlastFace x = row();
        x.becomes(1, Scene.DEAD, 1);
        due("LOST", x.misfire(1, LOST), 0);
        due("BARED", x.misfire(1, BARED), 0);
        due("WORST", x.misfire(1, WORST), x.worst(0));
        due("OVER", x.misfire(1, OVER), x.worst(2));
        due("it is DEAD all the same", x.sets(2), 2);
        x.becomes(1, Scene.DEAD, 0);
        due("of one that is not, LOST", x.misfire(1, LOST), 4);
        due("BARED", x.misfire(1, BARED), 16);
    }

    private static void lost() {
        BlastFace x = row();
        due("all behind the first", x.misfire(0, LOST), 2 + 4);
        due("behind the second", x.misfire(1, LOST), 4);
        due("behind the last nobody, itself not counted", x.misfire(2, LOST), 0);
        due("nor by one of ROW 1", x.misfire(3, LOST), 0);
        x.becomes(2, Scene.DEAD, 1);
        due("who doesn't FIRE now isn't lost", x.misfire(1, LOST), 0);
        x.becomes(2, Scene.DEAD, 0);
        x.wire(-1, 2, 500);
        due("nor who FIRES later then", x.misfire(1, LOST), 0);
        BlastFace y = Scene.holes(Scene.at(0, 0, 5, 1, 1, 0), Scene.at(0, 1, 0));
        y.wire(-1, 0, 0);
        y.wire(0, 1, 0);
        due("behind a DUMMY that MISFIRES", y.misfire(0, LOST), 2);
    }

    private static void bared() {
        BlastFace x = row();
        due("who is behind it", x.misfire(0, BARED), 8 + 16);
        due("behind one that is lost by it", x.misfire(1, BARED), 16);
        due("nobody", x.misfire(3, BARED), 0);
        x.becomes(3, Scene.IN, 1);
        due("BURIED now is no more counted", x.misfire(0, BARED), 16);
        due("though it is BURIED", x.sets(1), 8);
        x.becomes(3, Scene.IN, 2);
        due("with RELIEF just so", x.misfire(0, BARED), 8 + 16);
        x.cut(3);
        due("who doesn't FIRE isn't BARED", x.misfire(0, BARED), 16);
    }

    private static void inThought() {
        BlastFace x = row();
        String shots = Scene.shots(x);
        for (int what = 0; what < 4; what++) {
            for (int i = 0; i < 5; i++) {
                x.misfire(i, what);
                x.broken(i, what);
            }
        }
        x.critical(0);
        x.critical(1);
        due("nobody is DEAD", x.sets(2), 0);
        due("all WIRES are there", x.count(1), 5);
        due("all FIRE", x.sets(0), 31);
        due("nobody is BURIED", x.sets(1), 0);
        check.due("SHOTS", Scene.shots(x), shots);
        due("WORST", x.worst(0), 2);
        due("its time", x.worst(1), 50);
    }

    private static void misfireShakes() {
        BlastFace x = Scene.started(Scene.at(0, 0, 0, 60, 1, 0), Scene.at(0, 1, 0, 50, 1, 7), Scene.at(0, 2, 0, 51, 1, 14));
        due("now", x.worst(0) * 10 + x.worst(2), 1102);
        due("without the first", x.misfire(0, WORST), 101);
        due("OVER", x.misfire(0, OVER), 1);
        due("without the second", x.misfire(1, WORST), 60);
        due("OVER", x.misfire(1, OVER), 0);
        due("without the last", x.misfire(2, WORST), 110);
        x.becomes(2, Scene.CHARGE, 50);
        due("at LIMIT", x.misfire(0, OVER), 0);
        BlastFace one = Scene.lone(0, 9, 1, 0);
        due("the only one: no SHOTS", one.misfire(0, WORST), 0);
        due("OVER", one.misfire(0, OVER), 0);
    }

    private static void misfireNone() {
        BlastFace x = row();
        for (int what = 0; what < 4; what++) {
            due("the last HOLE: " + what, x.misfire(4, what) >= 0 ? 1 : 0, 1);
            for (int hole : new int[] {-1, 5, LOW, HIGH}) due("misfire(" + hole + ", " + what + ")", x.misfire(hole, what), NONE);
        }
        for (int what : new int[] {-1, 4, LOW, HIGH}) due("what " + what, x.misfire(0, what), NONE);
        due("a new object", new BlastFace().misfire(0, 0), NONE);
    }

    private static void brokenWires() {
        check.test("4: a BROKEN WIRE: it is not there", ThoughtEdgesTest::notThere);
        check.test("Promise 20: likewise: LOST, BARED, WORST, OVER", ThoughtEdgesTest::brokenTold);
        check.test("Promise 20: NONE: wire, what", ThoughtEdgesTest::brokenNone);
    }

    private static void notThere() {
        BlastFace x = Scene.holes(Scene.at(0, 0, 0), Scene.at(0, 1, 0));
        x.wire(-1, 0, 5);
        x.wire(-1, 0, 5);
        x.wire(0, 1, 0);
        due("another one like it is there", x.broken(0, LOST), 0);
        due("and the other way round", x.broken(1, LOST), 0);
        x.cut(1);
        due("the only one: all are lost, none left out", x.broken(0, LOST), 3);
        due("the last one", x.broken(1, LOST), 2);
        x.becomes(0, Scene.DEAD, 1);
        due("from a DEAD one", x.broken(1, LOST), 0);
        due("to a DEAD one", x.broken(0, LOST), 0);
        BlastFace y = Scene.forty();
        due("the least of 40", y.broken(0, LOST), 0);
        due("the greatest of 40", y.broken(39, LOST), 0);
    }

    private static void brokenTold() {
        BlastFace x = row();
        due("LOST", x.broken(1, LOST), 2 + 4);
        due("BARED", x.broken(1, BARED), 16);
        due("who is behind the first, BARED", x.broken(0, BARED), 8 + 16);
        due("WORST", x.broken(3, WORST), 1);
        due("OVER", x.broken(3, OVER), 0);
        x.rule(1, 1);
        due("OVER by LIMIT 1", x.broken(0, OVER), 1);
        due("OVER now", x.worst(2), 1);
        due("OVER without one of the two", x.broken(4, OVER), 0);
        x.wire(-1, 0, 49);
        due("later, by another WIRE: LOST", x.broken(0, LOST), 0);
        due("BARED: both, 1 too early", x.broken(0, BARED), 8 + 16);
        x.cut(5);
        x.wire(-1, 0, 48);
        due("BARED: the one behind the last alone", x.broken(0, BARED), 16);
    }

    private static void brokenNone() {
        BlastFace x = Scene.forty();
        for (int what = 0; what < 4; what++) {
            due("the last WIRE: " + what, x.broken(39, what) >= 0 ? 1 : 0, 1);
            for (int wire : new int[] {-1, 40, LOW, HIGH}) due("broken(" + wire + ", " + what + ")", x.broken(wire, what), NONE);
        }
        for (int what : new int[] {-1, 4, LOW, HIGH}) due("what " + what, x.broken(0, what), NONE);
        due("a new object", new BlastFace().broken(0, 0), NONE);
        due("HOLES, but no WIRES", Scene.holes(Scene.at(0, 0, 0)).broken(0, 0), NONE);
    }

    private static void criticalOnes() {
        check.test("4: CRITICAL: it may be 0", ThoughtEdgesTest::mayBeNothing);
        check.test("4: CRITICAL: of several the least", ThoughtEdgesTest::criticalLeast);
        check.test("4: CRITICAL: most LOST and BARED together", ThoughtEdgesTest::criticalTogether);
        check.test("4: CRITICAL: NONE: no HOLES; likewise the WIRE", ThoughtEdgesTest::criticalNone);
        check.test("Promise 21: NONE: what", ThoughtEdgesTest::criticalWhat);
    }

    private static void mayBeNothing() {
        BlastFace x = Scene.holes(Scene.at(0, 0, 0), Scene.at(0, 1, 0));
        due("nobody FIRES", x.critical(0), 0);
        x.wire(0, 1, 0);
        x.wire(1, 0, 0);
        due("no WIRE brings a SIGNAL", x.critical(1), 0);
        x.becomes(0, Scene.DEAD, 1);
        due("a DEAD one", x.critical(0), 0);
    }

    private static void criticalLeast() {
        BlastFace x = Scene.holes(Scene.at(0, 0, 0), Scene.at(0, 2, 0), Scene.at(0, 4, 0), Scene.at(0, 6, 0));
        x.wire(-1, 1, 0);
        x.wire(-1, 2, 0);
        x.wire(1, 0, 0);
        x.wire(2, 3, 0);
        due("1 and 2 make one lost each", x.critical(0), 1);
        due("WIRES 0 and 1 make two lost each", x.critical(1), 0);
        x.wire(-1, 0, 9);
        due("2 alone now", x.critical(0), 2);
        due("WIRE 1 alone", x.critical(1), 1);
    }

    private static void criticalTogether() {
        BlastFace x = Scene.holes(Scene.at(0, 0, 0), Scene.at(0, 2, 0), Scene.at(0, 4, 0), Scene.at(1, 8, 0), Scene.at(0, 8, 0));
        x.wire(-1, 0, 0);
        x.wire(0, 1, 0);
        x.wire(-1, 4, 0);
        x.wire(-1, 3, 50);
        due("0: one LOST, 4: one BARED", x.critical(0), 0);
        x.wire(4, 2, 0);
        due("4: one LOST and one BARED", x.critical(0), 4);
        due("WIRE 2: two LOST, one BARED", x.critical(1), 2);
        x.wire(1, 2, 0);
        due("0: one LOST, 4: one BARED again", x.critical(0), 0);
        BlastFace last = Scene.twenty(0, 1);
        last.wire(-1, 19, 0);
        last.wire(19, 0, 0);
        due("the last of 20", last.critical(0), 19);
        for (int i = 2; i < 39; i++) last.wire(1, 2, 0);
        last.cut(0);
        last.wire(-1, 19, 0);
        last.wire(1, 2, 0);
        due("WIRE 38 of 40", last.critical(1), 38);
    }

    private static void criticalNone() {
        BlastFace x = new BlastFace();
        due("no HOLES", x.critical(0), NONE);
        due("no WIRES", x.critical(1), NONE);
        x.hole(0, 0, 0, 1, 1, 0);
        due("one HOLE", x.critical(0), 0);
        due("still no WIRES", x.critical(1), NONE);
        x.wire(-1, 0, 0);
        due("one WIRE", x.critical(1), 0);
        x.drop();
        due("no HOLES any more", x.critical(0), NONE);
        due("no WIRES any more", x.critical(1), NONE);
    }

    private static void criticalWhat() {
        BlastFace x = row();
        due("HOLE", x.critical(0), 0);
        due("WIRE", x.critical(1), 0);
        for (int what : new int[] {-1, 2, LOW, HIGH}) due("what " + what, x.critical(what), NONE);
    }

    private static void plans() {
        check.test("4: PLAN: nobody is planned at first; HOLES that FIRE", ThoughtEdgesTest::planWhoFires);
        check.test("4: PLAN: by ROWS, then by COLUMNS", ThoughtEdgesTest::planOrder);
        check.test("4: PLAN: the least IN of 0, PACE, twice PACE, ..", ThoughtEdgesTest::planByPace);
        check.test("4: PLAN: 999 at most", ThoughtEdgesTest::planAtMost);
        check.test("4: PLAN: TIME being its SIGNAL as it is and that IN", ThoughtEdgesTest::planSignal);
        check.test("4: PLAN: RELIEF by those planned (all AHEAD must be planned)", ThoughtEdgesTest::planRelief);
    }

    private static void planWhoFires() {
        BlastFace x = Scene.holes(Scene.at(0, 0, 7), Scene.at(0, 1, 7), Scene.at(0, 2, 5, 1, 1, 7), Scene.at(0, 3, 7));
        due("nobody has a SIGNAL", x.planned(0), 0);
        for (int h = 1; h < 4; h++) x.wire(-1, h, 0);
        x.becomes(3, Scene.DEAD, 1);
        due("without a SIGNAL", x.plan(0), STATE);
        due("one that FIRES", x.plan(1), 0);
        due("a DUMMY", x.plan(2), STATE);
        due("a DEAD one", x.plan(3), STATE);
        due("one is planned", x.planned(0), 1);
        BlastFace y = Scene.twenty(0, 1);
        for (int i = 0; i < 20; i++) y.wire(-1, i, 0);
        due("all 20 can be", y.planned(0), 20);
    }

    private static void planOrder() {
        // two of 60 never fit at one time: who comes first gets 0
        BlastFace x = Scene.started(Scene.at(0, 9, 0, 60, 1, 0), Scene.at(0, 0, 0, 60, 1, 0), Scene.at(1, 9, 0, 60, 1, 0), Scene.at(0, 5, 0, 60, 1, 0));
        due("COLUMN 0", x.plan(1), 0);
        due("COLUMN 5", x.plan(3), 25);
        due("COLUMN 9", x.plan(0), 50);
        due("ROW 1, behind it", x.plan(2), 75);
        BlastFace y = Scene.started(Scene.at(1, 0, 0, 60, 1, 0), Scene.at(0, 1, 0, 60, 1, 0), Scene.at(0, 9, 0, 60, 1, 0));
        due("ROW 0, COLUMN 1", y.plan(1), 0);
        due("ROW 0, COLUMN 9 is ahead of ROW 1, COLUMN 0", y.plan(2), 25);
        due("ROW 1", y.plan(0), 50);
        BlastFace all = Scene.started(Scene.at(4, 0, 0), Scene.at(3, 0, 0), Scene.at(2, 0, 0), Scene.at(1, 0, 0), Scene.at(0, 0, 0));
        for (int h = 0; h < 5; h++) due("ROW " + (4 - h), all.plan(h), 25 * (4 - h));
        due("the last ROW, too", all.planned(0), 5);
    }

    private static void planByPace() {
        for (int pace : new int[] {5, 6, 25, 99}) {
            BlastFace x = Scene.started(Scene.at(0, 0, 0, 60, 1, 3), Scene.at(0, 1, 0, 60, 1, 3), Scene.at(0, 2, 0, 60, 1, 3));
            x.rule(2, pace);
            int step = pace < 8 ? 2 * pace : pace;
            due("the first by " + pace, x.plan(0), 0);
            due("the second by " + pace, x.plan(1), step);
            due("the third by " + pace, x.plan(2), 2 * step);
        }
    }

    /** IN of a HOLE of ROW 1 whose relief begins at a time from 2 on. */
    private static int planFrom(int time, int pace) {
        BlastFace x = Scene.holes(Scene.at(1, 9, 0), Scene.at(0, 9, 0), Scene.at(0, 0, 5, 1, 1, 0));
        x.wire(-1, 0, 0);
        x.wire(-1, 2, (time - 2) / 2);
        x.wire(2, 1, (time - 2) - (time - 2) / 2);
        x.rule(2, pace);
        return x.plan(0);
    }

    private static void planAtMost() {
        due("999 is 27 times 37", planFrom(999, 37), 999);
        due("just behind 962", planFrom(963, 37), 999);
        due("1000 is 1 too late", planFrom(1000, 37), STATE);
        due("999 is 111 times 9", planFrom(999, 9), 999);
        due("by 5: 995", planFrom(995, 5), 995);
        due("by 5: 1000 is too much", planFrom(996, 5), STATE);
        due("by 25: 975", planFrom(975, 25), 975);
        due("by 25: 1000 is too much", planFrom(976, 25), STATE);
        due("by 99: 990", planFrom(990, 99), 990);
        due("by 99: 1089 is too much", planFrom(991, 99), STATE);
    }

    private static void planSignal() {
        BlastFace x = Scene.holes(Scene.at(0, 0, 0, 60, 1, 999), Scene.at(0, 1, 0, 60, 1, 999), Scene.at(0, 2, 0, 60, 1, 999));
        x.wire(-1, 0, 0);
        x.wire(0, 1, 7);
        x.wire(0, 2, 8);
        due("0", x.plan(0), 0);
        due("7 and 0 is in one WINDOW with 0", x.plan(1), 25);
        due("8 and 0 is not", x.plan(2), 0);
        due("7 and 25", x.planned(1), 32);
        due("IN as it is is no matter", x.of(1, 5), 999);
    }

    private static void planRelief() {
        BlastFace x = Scene.started(Scene.at(1, 4, 0, 1, 12, 0), Scene.at(0, 3, 0), Scene.at(0, 5, 0));
        due("24 behind 0", x.plan(0), 25);
        x.becomes(0, Scene.BURDEN, 13);
        due("26 behind 0", x.plan(0), 50);
        x.becomes(2, Scene.DEAD, 1);
        due("one AHEAD is DEAD", x.plan(0), STATE);
        x.becomes(2, Scene.DEAD, 0);
        x.becomes(2, Scene.CHARGE, 99);
        x.rule(1, 98);
        due("one AHEAD can't be planned", x.plan(2), STATE);
        due("nor can who is behind it", x.plan(0), STATE);
        due("the other one can", x.plan(1), 0);
        BlastFace alone = Scene.started(Scene.at(1, 0, 999));
        due("ROW 1, nobody AHEAD", alone.plan(0), STATE);
        BlastFace late = Scene.holes(Scene.at(0, 4, 0), Scene.at(1, 4, 0));
        late.wire(-1, 0, 0);
        late.wire(-1, 1, 2);
        due("its SIGNAL is RELIEF enough", late.plan(1), 0);
    }

    private static void planEnds() {
        check.test("4: PLAN: no SHAKE is above LIMIT", ThoughtEdgesTest::planLimit);
        check.test("4: PLAN: of SHOTS of those planned and its own", ThoughtEdgesTest::planOwnShots);
        check.test("4: PLAN: NONE, if there is none: it isn't planned", ThoughtEdgesTest::planNobody);
    }

    private static BlastFace pair(int charge, int other, int in) {
        BlastFace x = Scene.holes(Scene.at(0, 0, 0, charge, 1, 0), Scene.at(0, 1, 0, other, 1, 0));
        x.wire(-1, 0, in);
        x.wire(-1, 1, 0);
        return x;
    }

    private static void planLimit() {
        due("50 and 50 are at LIMIT", pair(50, 50, 0).plan(1), 0);
        due("50 and 51 are above", pair(50, 51, 0).plan(1), 25);
        due("7 later is in the WINDOW", pair(50, 51, 7).plan(1), 25);
        due("8 later is not", pair(50, 51, 8).plan(1), 0);
        BlastFace x = pair(50, 51, 8);
        x.rule(0, 9);
        due("but in one of 9", x.plan(1), 25);
        BlastFace behind = pair(50, 51, 32);
        due("32 later, too", behind.plan(1), 0);
        behind.rule(1, 51);
        due("LIMIT is just its own", behind.plan(1), 0);
        behind.rule(1, 50);
        due("LIMIT is 1 below", behind.plan(1), STATE);
    }

    /** A DECK of 50 and 50 is planned beside a HOLE. */
    private static int deckBeside(int charge, int at, int window) {
        BlastFace x = Scene.holes(Scene.at(0, 0, 0, charge, 1, 0), Scene.at(0, 1, 2, 99, 1, 0));
        x.wire(-1, 0, at);
        x.wire(-1, 1, 0);
        x.rule(0, window);
        x.rule(2, 5);
        return x.plan(1);
    }

    private static void planOwnShots() {
        due("50 with 50", deckBeside(50, 0, 8), 0);
        due("51 with its first", deckBeside(51, 0, 1), 5);
        due("51 with its second, of 49", deckBeside(51, 17, 1), 0);
        due("52 with its second, of 49", deckBeside(52, 17, 1), 5);
        due("52, its second 1 ahead", deckBeside(52, 18, 2), 5);
        due("52, its second 1 behind", deckBeside(52, 16, 2), 5);
        due("52, its second 2 ahead", deckBeside(52, 19, 2), 0);
        due("2 with both of its own, of 99", deckBeside(2, 100, 18), 0);
        BlastFace least = Scene.holes(Scene.at(0, 0, 0, 99, 1, 0), Scene.at(0, 1, 2, 3, 1, 0));
        least.wire(-1, 0, 18);
        least.wire(-1, 1, 0);
        least.rule(0, 2);
        due("99, its second of 1 ahead of it", least.plan(1), 0);
        least.rule(1, 99);
        due("above LIMIT by 1", least.plan(1), 25);
        BlastFace x = Scene.lone(2, 99, 1, 0);
        x.rule(1, 98);
        x.rule(0, 17);
        due("its own, 17 off", x.plan(0), 0);
        x.rule(0, 18);
        due("its own in one WINDOW", x.plan(0), STATE);
        x.rule(1, 99);
        due("at LIMIT", x.plan(0), 0);
    }

    private static void planNobody() {
        BlastFace x = Scene.started(Scene.at(0, 0, 0, 60, 1, 7), Scene.at(0, 5, 0, 59, 1, 7));
        x.rule(1, 59);
        due("60 by 59", x.plan(0), STATE);
        due("59 by 59", x.plan(1), 0);
        due("one is planned", x.planned(0), 1);
        due("its SHOTS", x.planned(2), 59);
        x.rule(1, 58);
        due("nobody", x.planned(0), 0);
        due("no TIME", x.planned(1), NONE);
        due("no SHOTS", x.planned(2), 0);
        // by 99 there are 11 places for a HOLE that fills LIMIT alone, 0 to 990
        BlastFace y = Scene.twenty(0, 99);
        for (int i = 0; i < 20; i++) {
            y.becomes(i, Scene.BURDEN, 1);
            y.wire(-1, i, 0);
        }
        y.rule(2, 99);
        due("11 of 20", y.planned(0), 11);
        due("the tenth", y.plan(9), 891);
        due("the eleventh", y.plan(10), 990);
        due("the twelfth", y.plan(11), STATE);
    }

    private static void answers() {
        check.test("Promise 22: NONE (looked at first)", ThoughtEdgesTest::planNone);
        check.test("Promise 23: nobody is: 0, NONE, 0", ThoughtEdgesTest::plannedEmpty);
        check.test("Promise 23: the greatest TIME of these", ThoughtEdgesTest::plannedTime);
        check.test("Promise 23: WORST of their SHOTS", ThoughtEdgesTest::plannedWorst);
        check.test("Promise 23: NONE: what", ThoughtEdgesTest::plannedNone);
        check.test("Promise 24: IN of all that are planned becomes as planned", ThoughtEdgesTest::adoptPlanned);
        check.test("Promise 24: how many these are", ThoughtEdgesTest::adoptNobody);
    }

    private static void planNone() {
        BlastFace x = Scene.holes(Scene.at(0, 0, 0), Scene.at(0, 1, 0));
        for (int hole : new int[] {-1, 2, LOW, HIGH}) due("plan(" + hole + ")", x.plan(hole), NONE);
        due("it isn't planned", x.plan(0), STATE);
        due("nor the last", x.plan(1), STATE);
        due("a new object", new BlastFace().plan(0), NONE);
    }

    private static void plannedEmpty() {
        int[] want = {0, NONE, 0};
        for (int what = 0; what < 3; what++) {
            due("a new object: " + what, new BlastFace().planned(what), want[what]);
            due("a DUMMY: " + what, Scene.lone(5, 9, 1, 0).planned(what), want[what]);
            due("one of ROW 1 alone: " + what, Scene.started(Scene.at(1, 0, 0)).planned(what), want[what]);
        }
    }

    private static void plannedTime() {
        due("0 is one", Scene.lone(0, 1, 1, 0).planned(1), 0);
        BlastFace x = Scene.holes(Scene.at(0, 0, 0), Scene.at(0, 1, 2, 9, 1, 0), Scene.at(4, 4, 0));
        x.wire(-1, 0, 300);
        x.wire(-1, 1, 299);
        x.wire(-1, 2, 500);
        due("not the second SHOT's 316, nor of who isn't planned", x.planned(1), 300);
        x.becomes(0, Scene.DEAD, 1);
        due("the other's", x.planned(1), 299);
    }

    private static void plannedWorst() {
        BlastFace x = pair(50, 50, 0);
        due("both", x.planned(2), 100);
        x.rule(1, 99);
        due("one by one", x.planned(2), 50);
        due("as things are they shake more", x.worst(0), 100);
        x.rule(0, 25);
        due("25 apart in a WINDOW of 25", x.planned(2), 50);
        x.rule(0, 26);
        due("50 apart in one of 26", x.planned(2), 50);
        due("as 25 is too little", x.plan(1), 50);
    }

    private static void plannedNone() {
        BlastFace x = Scene.lone(0, 9, 1, 0);
        int[] want = {1, 0, 9};
        for (int what = 0; what < 3; what++) due("what " + what, x.planned(what), want[what]);
        for (int what : new int[] {-1, 3, LOW, HIGH}) due("what " + what, x.planned(what), NONE);
    }

    private static void adoptPlanned() {
        BlastFace x = Scene.started(Scene.at(0, 0, 0, 60, 1, 999), Scene.at(0, 1, 0, 60, 1, 999), Scene.at(2, 9, 0, 1, 1, 999));
        due("two of three", x.adopt(), 2);
        due("the first", x.of(0, 5), 0);
        due("the second", x.of(1, 5), 25);
        due("who isn't planned keeps its own", x.of(2, 5), 999);
        due("they FIRE so", x.time(1, 1), 25);
        due("PLAN stays as it was", x.plan(1), 25);
        due("again", x.adopt(), 2);
        due("it shakes as planned", x.worst(0), x.planned(2));
    }

    private static void adoptNobody() {
        due("a new object", new BlastFace().adopt(), 0);
        BlastFace x = Scene.started(Scene.at(1, 0, 44));
        due("nobody is planned", x.adopt(), 0);
        due("IN stays", x.of(0, 5), 44);
        BlastFace y = Scene.twenty(0, 1);
        for (int i = 0; i < 20; i++) y.wire(-1, i, 0);
        due("all 20", y.adopt(), 20);
        due("nobody is BURIED then", y.sets(1), 0);
    }
}
