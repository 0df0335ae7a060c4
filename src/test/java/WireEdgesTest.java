/** Edges of WIRES, SIGNALS, who FIRES and who is BURIED: terms 2, promises 6 to 8, 11, 12 and 17. */
public final class WireEdgesTest {
    private static final int NONE = Scene.NONE, BAD = Scene.BAD, FULL = Scene.FULL;
    private static final int LOW = Scene.LOW, HIGH = Scene.HIGH;
    private static final int SIGNAL = 0, TIME = 1, RELIEF = 2, RING = 3;
    private static final int ENDS = 3, TORN = 4;
    private static Check check;

    public static void main(String[] args) {
        Check all = new Check();
        all(all);
        all.end("WireEdgesTest");
    }

    static void all(Check to) {
        check = to;
        wiresThemselves();
        signals();
        whoFires();
        whatEnds();
        whatTears();
        whoHasRelief();
        answersOfWires();
        answersOfTimes();
        answersOfSets();
    }

    private static void due(String call, long got, long want) {
        check.due(call, got, want);
    }

    private static void wiresThemselves() {
        check.test("2: WIRES 0, 1, .. as they come", WireEdgesTest::numbersAsTheyCome);
        check.test("2: 40 at most", WireEdgesTest::fortyAtMost);
        check.test("2: from the STARTER (-1) or a HOLE", WireEdgesTest::fromBounds);
        check.test("2: to another HOLE", WireEdgesTest::toBounds);
        check.test("2: DELAY 0 .. 500", WireEdgesTest::delayBounds);
        check.test("In doubt: a WIRE may come twice", WireEdgesTest::wireTwice);
    }

    private static void numbersAsTheyCome() {
        BlastFace x = Scene.holes(Scene.at(0, 0, 0), Scene.at(0, 1, 0));
        due("the first", x.wire(1, 0, 5), 0);
        due("the second", x.wire(-1, 1, 6), 1);
        due("refused", x.wire(-1, 2, 6), NONE);
        due("the third", x.wire(0, 1, 7), 2);
        due("as they came", x.wired(0, 2) * 100 + x.wired(1, 2) * 10 + x.wired(2, 2), 567);
        x.cut(0);
        due("behind a cut", x.wire(-1, 0, 8), 2);
    }

    private static void fortyAtMost() {
        BlastFace x = Scene.holes(Scene.at(0, 0, 0), Scene.at(0, 1, 0));
        for (int i = 0; i < 39; i++) x.wire(-1, 0, i);
        due("the 40th", x.wire(1, 0, 500), 39);
        due("a 41st", x.wire(1, 0, 500), FULL);
        due("there are 40", x.count(1), 40);
        due("the 40th is there", x.wired(39, 2), 500);
        due("a 41st is not", x.wired(40, 2), NONE);
        x.cut(0);
        due("room again for one", x.wire(0, 1, 1), 39);
        due("not for two", x.wire(0, 1, 1), FULL);
        BlastFace y = Scene.twenty(0, 1);
        for (int i = 0; i < 40; i++) due("among 20 HOLES", y.wire(i % 20, (i + 1) % 20, 0), i);
    }

    private static void fromBounds() {
        BlastFace x = Scene.twenty(0, 1);
        due("the STARTER", x.wire(-1, 5, 0), 0);
        due("the first HOLE", x.wire(0, 5, 0), 1);
        due("the last HOLE", x.wire(19, 5, 0), 2);
        for (int from : new int[] {-2, 20, 99, LOW, HIGH}) due("from " + from, x.wire(from, 5, 0), NONE);
        x.drop();
        due("the last one now", x.wire(18, 5, 0), 2);
        due("who was the last", x.wire(19, 5, 0), NONE);
        due("three came", x.count(1), 3);
    }

    private static void toBounds() {
        BlastFace x = Scene.twenty(0, 1);
        due("the first HOLE", x.wire(-1, 0, 0), 0);
        due("the last HOLE", x.wire(-1, 19, 0), 1);
        for (int to : new int[] {-1, 20, 99, -2, LOW, HIGH}) due("to " + to, x.wire(5, to, 0), NONE);
        due("to itself, the first", x.wire(0, 0, 0), NONE);
        due("to itself, the last", x.wire(19, 19, 0), NONE);
        due("the STARTER to itself", x.wire(-1, -1, 0), NONE);
        due("two came", x.count(1), 2);
        due("there are no HOLES", new BlastFace().wire(-1, 0, 0), NONE);
        due("one HOLE and the STARTER", Scene.holes(Scene.at(0, 0, 0)).wire(-1, 0, 0), 0);
    }

    private static void delayBounds() {
        BlastFace x = Scene.holes(Scene.at(0, 0, 0));
        due("0", x.wire(-1, 0, 0), 0);
        due("500", x.wire(-1, 0, 500), 1);
        for (int delay : new int[] {-1, 501, LOW, HIGH, 65536}) due("DELAY " + delay, x.wire(-1, 0, delay), BAD);
        due("two came", x.count(1), 2);
        due("told: 0", x.wired(0, 2), 0);
        due("told: 500", x.wired(1, 2), 500);
    }

    private static void wireTwice() {
        BlastFace x = Scene.holes(Scene.at(0, 0, 0), Scene.at(0, 1, 0));
        due("once", x.wire(0, 1, 7), 0);
        due("twice", x.wire(0, 1, 7), 1);
        due("and the other way", x.wire(1, 0, 7), 2);
        x.wire(-1, 0, 0);
        x.cut(0);
        due("one of the two is cut, the other brings the SIGNAL", x.time(1, SIGNAL), 7);
        x.cut(0);
        due("both are", x.time(1, SIGNAL), NONE);
    }

    private static void signals() {
        check.test("2: SIGNAL: the least of all DELAYS together", WireEdgesTest::leastOfAll);
        check.test("2: SIGNAL along WIRES, one behind the other", WireEdgesTest::alongWires);
        check.test("2: SIGNAL: none of them from a DEAD HOLE", WireEdgesTest::noneFromDead);
        check.test("2: SIGNAL: NONE: there are no such", WireEdgesTest::noSuchWires);
        check.test("In doubt: a DEAD HOLE to which WIRES lead has a SIGNAL", WireEdgesTest::deadHasSignal);
    }

    private static void leastOfAll() {
        BlastFace x = Scene.holes(Scene.at(0, 0, 0), Scene.at(0, 1, 0), Scene.at(0, 2, 0));
        x.wire(-1, 2, 9);
        due("the only way", x.time(2, SIGNAL), 9);
        x.wire(-1, 0, 4);
        x.wire(0, 1, 3);
        x.wire(1, 2, 2);
        due("two that are even", x.time(2, SIGNAL), 9);
        x.cut(3);
        x.wire(1, 2, 1);
        due("one less by three WIRES", x.time(2, SIGNAL), 8);
        x.wire(-1, 2, 7);
        due("one less by one", x.time(2, SIGNAL), 7);
        x.wire(-1, 2, 500);
        due("a longer one is no matter", x.time(2, SIGNAL), 7);
        x.wire(-1, 2, 0);
        due("0", x.time(2, SIGNAL), 0);
    }

    private static void alongWires() {
        BlastFace x = Scene.twenty(0, 1);
        // 0 last and 19 first, so that no order of numbers helps
        for (int i = 0; i < 19; i++) x.wire(i + 1, i, 500);
        x.wire(-1, 19, 500);
        due("the first", x.time(19, SIGNAL), 500);
        due("by 20 WIRES", x.time(0, SIGNAL), 10000);
        BlastFace y = Scene.twenty(0, 1);
        y.wire(-1, 0, 0);
        for (int i = 0; i < 19; i++) y.wire(i, i + 1, 500);
        for (int i = 0; i < 19; i++) y.wire(i + 1, i, 0);
        due("there and back", y.time(19, SIGNAL), 9500);
        due("the first stays", y.time(0, SIGNAL), 0);
    }

    private static void noneFromDead() {
        BlastFace x = Scene.holes(Scene.at(0, 0, 0), Scene.at(0, 1, 0), Scene.at(0, 2, 0));
        x.wire(-1, 0, 1);
        x.wire(0, 1, 1);
        x.wire(1, 2, 1);
        x.wire(-1, 2, 100);
        due("by all three", x.time(2, SIGNAL), 3);
        x.becomes(1, Scene.DEAD, 1);
        due("a DEAD one between", x.time(2, SIGNAL), 100);
        due("ahead of that nothing is otherwise", x.time(0, SIGNAL), 1);
        x.becomes(1, Scene.DEAD, 0);
        x.becomes(2, Scene.DEAD, 1);
        due("a DEAD one at the end", x.time(2, SIGNAL), 3);
        x.becomes(0, Scene.DEAD, 1);
        due("one at the beginning", x.time(2, SIGNAL), 100);
        due("the next has none", x.time(1, SIGNAL), NONE);
    }

    private static void noSuchWires() {
        BlastFace x = Scene.holes(Scene.at(0, 0, 0), Scene.at(0, 1, 0));
        due("no WIRES", x.time(0, SIGNAL), NONE);
        x.wire(0, 1, 0);
        x.wire(1, 0, 0);
        due("a circle without the STARTER", x.time(0, SIGNAL), NONE);
        due("nor the other", x.time(1, SIGNAL), NONE);
        due("both without a SIGNAL", x.sets(3), 3);
        x.wire(-1, 1, 0);
        due("a circle with it", x.time(0, SIGNAL), 0);
    }

    private static void deadHasSignal() {
        BlastFace x = Scene.lone(0, 1, 1, 5);
        x.becomes(0, Scene.DEAD, 1);
        due("SIGNAL", x.time(0, SIGNAL), 0);
        due("it is not without one", x.sets(3), 0);
        due("no TIME", x.time(0, TIME), NONE);
        due("the WIRE to it ENDS", x.wired(0, ENDS), 0);
    }

    private static void whoFires() {
        check.test("2: FIRES, if it has a SIGNAL", WireEdgesTest::firesBySignal);
        check.test("2: FIRES, if it is not DEAD", WireEdgesTest::firesAlive);
        check.test("2: FIRES, if it has SHOTS", WireEdgesTest::firesWithShots);
        check.test("2: TIME: that of its first SHOT (SIGNAL and IN)", WireEdgesTest::timeOfFirst);
        check.test("2: the SHOTS by time, those of one time by HOLES", WireEdgesTest::shotsInOrder);
    }

    private static void firesBySignal() {
        BlastFace x = Scene.holes(Scene.at(0, 0, 0));
        due("without", x.sets(0), 0);
        x.wire(-1, 0, 0);
        due("SIGNAL 0 is one", x.sets(0), 1);
        x.cut(0);
        due("without again", x.sets(0), 0);
    }

    private static void firesAlive() {
        BlastFace x = Scene.lone(0, 1, 1, 0);
        x.becomes(0, Scene.DEAD, 1);
        due("DEAD", x.sets(0), 0);
        due("no SHOTS", x.worst(3), 0);
        x.becomes(0, Scene.DEAD, 0);
        due("not DEAD", x.sets(0), 1);
    }

    private static void firesWithShots() {
        for (int k = 0; k < 6; k++) due("KIND " + k, Scene.lone(k, 1, 1, 0).sets(0), k == 5 ? 0 : 1);
        BlastFace x = Scene.lone(5, 99, 20, 0);
        due("a DUMMY's TIME", x.time(0, TIME), NONE);
        due("nor RELIEF or BURIED", x.time(0, RELIEF), NONE);
        due("nor RING", x.time(0, RING), NONE);
        due("but a SIGNAL", x.time(0, SIGNAL), 0);
    }

    private static void timeOfFirst() {
        BlastFace x = Scene.holes(Scene.at(0, 0, 0), Scene.at(0, 1, 2, 9, 1, 999));
        x.wire(-1, 0, 0);
        x.wire(-1, 1, 500);
        due("0 and 0", x.time(0, TIME), 0);
        due("500 and 999", x.time(1, TIME), 1499);
        due("its second SHOT is later", x.shot(2, 0), 1516);
    }

    private static void shotsInOrder() {
        BlastFace x = Scene.started(Scene.at(0, 0, 17), Scene.at(0, 1, 2, 8, 1, 0), Scene.at(0, 2, 0, 3, 1, 17), Scene.at(0, 3, 16), Scene.at(0, 4, 18));
        check.due("a second SHOT between", Scene.shots(x), "0/4/1 16/1/3 17/1/0 17/4/1 17/3/2 18/1/4");
        BlastFace y = Scene.twenty(3, 99);
        for (int i = 0; i < 20; i++) y.wire(-1, i, 0);
        due("40 SHOTS", y.worst(3), 40);
        for (int i = 0; i < 40; i++) {
            due("time of SHOT " + i, y.shot(i, 0), i < 20 ? 0 : 17);
            due("LOAD of SHOT " + i, y.shot(i, 1), i < 20 ? 100 : 98);
            due("HOLE of SHOT " + i, y.shot(i, 2), i % 20);
        }
    }

    private static void whatEnds() {
        check.test("2: a WIRE ENDS at that SIGNAL (the STARTER's is 0) and DELAY", WireEdgesTest::endsAt);
        check.test("2: it ENDS, if it begins at the STARTER, or at a HOLE with a SIGNAL that is not DEAD", WireEdgesTest::endsIf);
    }

    private static void endsAt() {
        BlastFace x = Scene.holes(Scene.at(0, 0, 900), Scene.at(0, 1, 0));
        x.wire(-1, 0, 0);
        x.wire(-1, 0, 500);
        x.wire(0, 1, 0);
        x.wire(0, 1, 500);
        x.wire(1, 0, 500);
        int[] want = {0, 500, 0, 500, 500};
        for (int w = 0; w < 5; w++) due("WIRE " + w, x.wired(w, ENDS), want[w]);
        x.cut(0);
        due("behind the SIGNAL, not the TIME", x.wired(1, ENDS), 500);
        due("500 and 500", x.wired(2, ENDS), 1000);
        due("back to where the SIGNAL comes from", x.wired(3, ENDS), 1000);
    }

    private static void endsIf() {
        BlastFace x = Scene.holes(Scene.at(0, 0, 0), Scene.at(0, 1, 5, 1, 1, 0), Scene.at(0, 2, 0));
        x.wire(0, 1, 1);
        x.wire(1, 2, 1);
        due("a HOLE without a SIGNAL", x.wired(0, ENDS), NONE);
        x.wire(-1, 0, 0);
        due("with one", x.wired(0, ENDS), 1);
        due("a DUMMY with one", x.wired(1, ENDS), 2);
        x.becomes(1, Scene.DEAD, 1);
        due("to a DEAD one", x.wired(0, ENDS), 1);
        due("from a DEAD one", x.wired(1, ENDS), NONE);
        x.becomes(0, Scene.DEAD, 1);
        due("from the STARTER, always", x.wired(2, ENDS), 0);
        due("from one that is DEAD now", x.wired(0, ENDS), NONE);
    }

    private static void whatTears() {
        check.test("2: TORN: with a TIME before that", WireEdgesTest::tornBefore);
        check.test("2: TORN: at most 1 ROW and 1 COLUMN off", WireEdgesTest::tornNear);
        check.test("2: TORN: a HOLE other than the one it leads to", WireEdgesTest::tornByOther);
        check.test("2: TORN, if it ENDS", WireEdgesTest::tornIfItEnds);
        check.test("2: TORN by one that FIRES", WireEdgesTest::tornByFiring);
        check.test("In doubt: a WIRE can be TORN by the HOLE it comes from, too", WireEdgesTest::tornFromItsOwn);
    }

    /** A WIRE that ENDS at 100 at (2, 4), a HOLE at a place that FIRES at a time. */
    private static int torn(int row, int column, int in) {
        BlastFace x = Scene.holes(Scene.at(2, 4, 0), Scene.at(row, column, in));
        x.wire(-1, 0, 100);
        x.wire(-1, 1, 0);
        return x.wired(0, TORN);
    }

    private static void tornBefore() {
        due("at 0", torn(2, 5, 0), 1);
        due("at 99", torn(2, 5, 99), 1);
        due("at 100", torn(2, 5, 100), 0);
        due("at 101", torn(2, 5, 101), 0);
        BlastFace x = Scene.started(Scene.at(2, 4, 0), Scene.at(2, 5, 0));
        due("nothing is before 0", x.sets(TORN), 0);
    }

    private static void tornNear() {
        for (int row = 0; row < 5; row++) {
            for (int column = 0; column < 10; column++) {
                if (row == 2 && column == 4) continue;
                boolean isNear = Math.abs(row - 2) <= 1 && Math.abs(column - 4) <= 1;
                due("by (" + row + ", " + column + ")", torn(row, column, 0), isNear ? 1 : 0);
            }
        }
    }

    private static void tornByOther() {
        BlastFace x = Scene.holes(Scene.at(2, 4, 0));
        x.wire(-1, 0, 0);
        x.wire(-1, 0, 500);
        due("it FIRES 500 before the second WIRE ENDS", x.sets(4), 0);
        x.hole(2, 5, 0, 1, 1, 0);
        x.wire(-1, 1, 499);
        due("another one, 1 before", x.sets(4), 2 + 4);
    }

    private static void tornIfItEnds() {
        BlastFace x = Scene.holes(Scene.at(2, 4, 0), Scene.at(2, 5, 0), Scene.at(2, 9, 0));
        x.wire(2, 0, 100);
        x.wire(-1, 1, 0);
        due("from a HOLE without a SIGNAL", x.wired(0, TORN), 0);
        x.wire(-1, 2, 0);
        due("with one", x.wired(0, TORN), 1);
        x.becomes(2, Scene.DEAD, 1);
        due("from a DEAD one", x.wired(0, TORN), 0);
    }

    private static void tornByFiring() {
        BlastFace x = Scene.holes(Scene.at(2, 4, 0), Scene.at(2, 5, 0), Scene.at(2, 3, 5, 1, 1, 0));
        x.wire(-1, 0, 100);
        x.wire(-1, 2, 0);
        due("one without a SIGNAL, and a DUMMY", x.wired(0, TORN), 0);
        x.wire(-1, 1, 0);
        due("one that FIRES", x.wired(0, TORN), 1);
        x.becomes(1, Scene.DEAD, 1);
        due("a DEAD one", x.wired(0, TORN), 0);
    }

    private static void tornFromItsOwn() {
        BlastFace x = Scene.holes(Scene.at(2, 4, 0), Scene.at(2, 5, 9));
        x.wire(-1, 0, 0);
        x.wire(0, 1, 1);
        due("it FIRES 1 before its own WIRE ENDS", x.wired(1, TORN), 1);
        x.becomes(0, Scene.IN, 1);
        due("as it ENDS", x.wired(1, TORN), 0);
    }

    private static void whoHasRelief() {
        check.test("2: RELIEF: its ROW is 0", WireEdgesTest::reliefInRow0);
        check.test("2: RELIEF: there are HOLES AHEAD, all of them FIRE", WireEdgesTest::reliefAllFire);
        check.test("2: RELIEF: each NEEDS earlier, or more", WireEdgesTest::reliefNeeds);
        check.test("2: RELIEF: its (the one behind's) NEEDS", WireEdgesTest::reliefOwnNeeds);
        check.test("2: RELIEF: each of those AHEAD", WireEdgesTest::reliefEach);
        check.test("2: BURIED: who FIRES without", WireEdgesTest::buriedFires);
        check.test("In doubt: a HOLE of ROW 1 and more that has no HOLES AHEAD is BURIED", WireEdgesTest::buriedAlone);
    }

    private static void reliefInRow0() {
        for (int k = 0; k < 5; k++) due("KIND " + k + " at 0", Scene.lone(k, 9, 20, 0).time(0, RELIEF), 1);
        due("at 999", Scene.lone(0, 9, 20, 999).time(0, RELIEF), 1);
        BlastFace x = Scene.started(Scene.at(0, 4, 0), Scene.at(1, 4, 999), Scene.at(1, 5, 999));
        due("all of them", x.sets(1), 0);
    }

    private static void reliefAllFire() {
        BlastFace x = Scene.holes(Scene.at(1, 4, 900), Scene.at(0, 3, 0), Scene.at(0, 4, 0), Scene.at(0, 5, 0));
        for (int h = 0; h < 3; h++) x.wire(-1, h, 0);
        due("one has no SIGNAL", x.time(0, RELIEF), 0);
        x.wire(-1, 3, 0);
        due("all FIRE", x.time(0, RELIEF), 1);
        for (int h = 1; h < 4; h++) {
            x.becomes(h, Scene.DEAD, 1);
            due("DEAD: " + h, x.time(0, RELIEF), 0);
            x.becomes(h, Scene.DEAD, 0);
        }
        BlastFace y = Scene.started(Scene.at(1, 4, 900), Scene.at(0, 4, 5, 1, 1, 0));
        due("a DUMMY is none of them", y.time(0, RELIEF), 0);
        y.hole(0, 5, 0, 1, 1, 0);
        y.wire(-1, 2, 0);
        due("nor in the way", y.time(0, RELIEF), 1);
    }

    /** A HOLE of BURDEN b that FIRES at its IN behind one that does at 50. */
    private static int relief(int kind, int burden, int in) {
        BlastFace x = Scene.started(Scene.at(1, 4, kind, 9, burden, in), Scene.at(0, 5, 50));
        due("RELIEF or BURIED", x.time(0, RELIEF) + (x.sets(1) & 1), 1);
        return x.time(0, RELIEF);
    }

    private static void reliefNeeds() {
        int[] least = {2, 1, 2, 3, 3};
        int[] most = {40, 39, 40, 60, 60};
        for (int k = 0; k < 5; k++) {
            due("KIND " + k + ", BURDEN 1, just so", relief(k, 1, 50 + least[k]), 1);
            due("KIND " + k + ", BURDEN 1, 1 too early", relief(k, 1, 49 + least[k]), 0);
            due("KIND " + k + ", BURDEN 20, just so", relief(k, 20, 50 + most[k]), 1);
            due("KIND " + k + ", BURDEN 20, 1 too early", relief(k, 20, 49 + most[k]), 0);
        }
        due("or more", relief(0, 1, 999), 1);
        due("at one time", relief(1, 1, 50), 0);
        due("earlier than the one ahead", relief(1, 1, 0), 0);
    }

    private static void reliefOwnNeeds() {
        BlastFace x = Scene.started(Scene.at(1, 4, 0, 1, 3, 56), Scene.at(0, 4, 0, 1, 20, 50));
        due("6, not 40", x.time(0, RELIEF), 1);
        x.becomes(0, Scene.BURDEN, 4);
        due("8", x.time(0, RELIEF), 0);
        x.becomes(1, Scene.BURDEN, 1);
        due("not 2", x.time(0, RELIEF), 0);
        x.becomes(1, Scene.IN, 48);
        due("8 earlier", x.time(0, RELIEF), 1);
    }

    private static void reliefEach() {
        for (int i = 0; i < 3; i++) {
            BlastFace x = Scene.started(Scene.at(1, 4, 52), Scene.at(0, 3, 50), Scene.at(0, 4, 50), Scene.at(0, 5, 50));
            due("all in time", x.time(0, RELIEF), 1);
            x.becomes(i + 1, Scene.IN, 51);
            due("one of them 1 too late: " + i, x.time(0, RELIEF), 0);
        }
    }

    private static void buriedFires() {
        BlastFace x = Scene.started(Scene.at(3, 3, 0), Scene.at(3, 5, 5, 1, 1, 0), Scene.at(0, 0, 0));
        due("the one that FIRES without RELIEF", x.sets(1), 1);
        x.becomes(0, Scene.DEAD, 1);
        due("a DEAD one is not BURIED", x.sets(1), 0);
        x.becomes(0, Scene.DEAD, 0);
        x.cut(0);
        due("nor is one without a SIGNAL", x.sets(1), 0);
    }

    private static void buriedAlone() {
        for (int row = 0; row < 5; row++) {
            BlastFace x = Scene.started(Scene.at(row, 4, 999));
            due("ROW " + row, x.time(0, RELIEF), row == 0 ? 1 : 0);
            due("ROW " + row, x.sets(1), row == 0 ? 0 : 1);
        }
        BlastFace x = Scene.started(Scene.at(2, 4, 999), Scene.at(0, 4, 0));
        due("one two ROWS less is not AHEAD", x.time(0, RELIEF), 0);
    }

    private static void answersOfWires() {
        check.test("Promise 6: NONE ahead of BAD ahead of FULL", WireEdgesTest::orderOfWire);
        check.test("Promise 7: from -1 is told as 99", WireEdgesTest::fromTold);
        check.test("Promise 7: NONE: wire or what", WireEdgesTest::noSuchWired);
        check.test("Promise 8: those behind it have a number 1 less", WireEdgesTest::cutInOrder);
        check.test("Promise 8: how many there are", WireEdgesTest::cutAll);
        check.test("Promise 8: NONE", WireEdgesTest::cutNone);
    }

    private static void orderOfWire() {
        BlastFace x = Scene.forty();
        due("all three", x.wire(0, 0, 501), NONE);
        due("from and FULL", x.wire(2, 0, 0), NONE);
        due("to and FULL", x.wire(0, 2, 0), NONE);
        due("BAD and FULL", x.wire(0, 1, -1), BAD);
        due("FULL alone", x.wire(0, 1, 0), FULL);
        BlastFace y = new BlastFace();
        due("NONE and BAD", y.wire(-1, 0, 501), NONE);
    }

    private static void fromTold() {
        BlastFace x = Scene.twenty(0, 1);
        x.wire(-1, 0, 0);
        x.wire(0, 19, 0);
        x.wire(19, 0, 0);
        due("the STARTER", x.wired(0, 0), 99);
        due("HOLE 0", x.wired(1, 0), 0);
        due("HOLE 19", x.wired(2, 0), 19);
        due("to HOLE 0", x.wired(0, 1), 0);
        due("to HOLE 19", x.wired(1, 1), 19);
    }

    private static void noSuchWired() {
        BlastFace x = Scene.forty();
        due("the first", x.wired(0, 2), 0);
        due("the last", x.wired(39, 2), 39);
        for (int wire : new int[] {-1, 40, LOW, HIGH, 256})
            for (int what = 0; what < 5; what++) due("WIRE " + wire + ", what " + what, x.wired(wire, what), NONE);
        for (int what : new int[] {-1, 5, LOW, HIGH}) due("what " + what, x.wired(0, what), NONE);
    }

    private static void cutInOrder() {
        for (int gone : new int[] {0, 1, 20, 38, 39}) {
            BlastFace x = Scene.forty();
            due("cut(" + gone + ")", x.cut(gone), 39);
            for (int w = 0; w < 39; w++) due("WIRE " + w + " behind cut(" + gone + ")", x.wired(w, 2), w < gone ? w : w + 1);
            due("no 40th", x.wired(39, 2), NONE);
        }
    }

    private static void cutAll() {
        BlastFace x = Scene.forty();
        for (int left = 39; left >= 0; left--) due("cut()", x.cut(left / 2), left);
        due("no SIGNAL any more", x.time(0, SIGNAL), NONE);
    }

    private static void cutNone() {
        BlastFace x = Scene.forty();
        for (int wire : new int[] {-1, 40, LOW, HIGH}) due("cut(" + wire + ")", x.cut(wire), NONE);
        due("all are there", x.count(1), 40);
        for (int i = 0; i < 40; i++) x.cut(0);
        due("none any more", x.cut(0), NONE);
        due("a new object", new BlastFace().cut(0), NONE);
    }

    private static void answersOfTimes() {
        check.test("Promise 11: NONE: it does not FIRE", WireEdgesTest::timeNone);
        check.test("Promise 11: NONE: hole, what", WireEdgesTest::timeNoSuch);
        check.test("Promise 12: the i-th SHOT (the first: 0)", WireEdgesTest::shotNumbers);
        check.test("Promise 12: NONE", WireEdgesTest::shotNone);
    }

    private static void timeNone() {
        BlastFace x = Scene.holes(Scene.at(0, 0, 0));
        for (int what = 0; what < 4; what++) due("without a SIGNAL: " + what, x.time(0, what), NONE);
        x.wire(-1, 0, 7);
        int[] fires = {7, 7, 1, 1};
        for (int what = 0; what < 4; what++) due("it FIRES: " + what, x.time(0, what), fires[what]);
        x.becomes(0, Scene.DEAD, 1);
        for (int what = 0; what < 4; what++) due("DEAD: " + what, x.time(0, what), what == 0 ? 7 : NONE);
    }

    private static void timeNoSuch() {
        BlastFace x = Scene.twenty(0, 1);
        for (int i = 0; i < 20; i++) x.wire(-1, i, i);
        due("the first", x.time(0, TIME), 0);
        due("the last", x.time(19, TIME), 19);
        for (int hole : new int[] {-1, 20, LOW, HIGH, 256})
            for (int what = 0; what < 4; what++) due("HOLE " + hole + ", what " + what, x.time(hole, what), NONE);
        for (int what : new int[] {-1, 4, LOW, HIGH}) due("what " + what, x.time(5, what), NONE);
        x.drop();
        due("the last is none any more", x.time(19, SIGNAL), NONE);
    }

    private static void shotNumbers() {
        BlastFace x = Scene.started(Scene.at(0, 0, 2, 9, 1, 3), Scene.at(0, 1, 0, 7, 1, 1));
        int[][] want = {{1, 7, 1}, {3, 5, 0}, {20, 4, 0}};
        for (int i = 0; i < 3; i++)
            for (int what = 0; what < 3; what++) due("shot(" + i + ", " + what + ")", x.shot(i, what), want[i][what]);
    }

    private static void shotNone() {
        BlastFace x = Scene.twenty(2, 2);
        for (int i = 0; i < 20; i++) x.wire(-1, i, 0);
        due("the last of 40", x.shot(39, 2), 19);
        for (int i : new int[] {-1, 40, LOW, HIGH})
            for (int what = 0; what < 3; what++) due("shot(" + i + ", " + what + ")", x.shot(i, what), NONE);
        for (int what : new int[] {-1, 3, LOW, HIGH}) due("what " + what, x.shot(0, what), NONE);
        due("no SHOTS", new BlastFace().shot(0, 0), NONE);
        x.becomes(19, Scene.DEAD, 1);
        due("two less", x.shot(37, 2), 18);
        due("beyond", x.shot(38, 2), NONE);
    }

    private static void answersOfSets() {
        check.test("Promise 17: bits of HOLES, 0 to 19", WireEdgesTest::holeBits);
        check.test("Promise 17: of WIRES (the first 31)", WireEdgesTest::wireBits);
        check.test("Promise 17: NONE", WireEdgesTest::setsNone);
    }

    private static void holeBits() {
        int all = (1 << 20) - 1;
        BlastFace x = Scene.twenty(0, 1);
        due("nobody FIRES", x.sets(0), 0);
        due("all without a SIGNAL", x.sets(3), all);
        for (int i = 0; i < 20; i++) x.wire(-1, i, 0);
        due("all FIRE", x.sets(0), all);
        due("none without a SIGNAL", x.sets(3), 0);
        due("ROW 1 is BURIED", x.sets(1), all - 1023);
        due("nobody is DEAD", x.sets(2), 0);
        for (int i = 0; i < 20; i++) {
            x.becomes(i, Scene.DEAD, 1);
            due("DEAD to " + i, x.sets(2), (2 << i) - 1);
            due("those behind FIRE", x.sets(0), all - ((2 << i) - 1));
        }
        due("nobody is BURIED", x.sets(1), 0);
    }

    private static void wireBits() {
        BlastFace x = Scene.holes(Scene.at(0, 0, 0), Scene.at(0, 1, 0));
        x.wire(-1, 1, 0);
        for (int w = 1; w < 30; w++) x.wire(-1, 0, 5);
        due("29 TORN ones", x.sets(4), (1 << 30) - 2);
        x.wire(-1, 0, 5);
        due("the 31st", x.sets(4), HIGH - 1);
        for (int w = 31; w < 40; w++) {
            x.wire(-1, 0, 5);
            due("WIRE " + w + " is TORN", x.wired(w, TORN), 1);
            due("it has no bit", x.sets(4), HIGH - 1);
        }
        x.cut(0);
        due("nobody FIRES before", x.sets(4), 0);
        BlastFace y = Scene.holes(Scene.at(0, 0, 0), Scene.at(0, 1, 0));
        y.wire(-1, 0, 1);
        due("the first, not TORN", y.sets(4), 0);
        y.wire(-1, 1, 0);
        due("the first, TORN", y.sets(4), 1);
    }

    private static void setsNone() {
        BlastFace x = Scene.started(Scene.at(1, 0, 0));
        int[] want = {1, 1, 0, 0, 0};
        for (int what = 0; what < 5; what++) due("what " + what, x.sets(what), want[what]);
        for (int what : new int[] {-1, 5, LOW, HIGH}) due("what " + what, x.sets(what), NONE);
        for (int what = 0; what < 5; what++) due("a new object, what " + what, new BlastFace().sets(what), 0);
    }
}
