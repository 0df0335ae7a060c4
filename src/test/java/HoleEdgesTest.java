/** Edges of HOLES: terms 1, promises 1 to 5, 10 and 18; a test for each sentence that names one. */
public final class HoleEdgesTest {
    private static final int NONE = Scene.NONE, BAD = Scene.BAD, STATE = Scene.STATE, FULL = Scene.FULL;
    private static final int LOW = Scene.LOW, HIGH = Scene.HIGH;
    private static final int KINDS = 6, MADE = 10, AHEAD = 11;
    private static Check check;

    public static void main(String[] args) {
        Check all = new Check();
        all(all);
        all.end("HoleEdgesTest");
    }

    static void all(Check to) {
        check = to;
        numbersAndBounds();
        whatKindsSay();
        whatIsMade();
        whatIsAhead();
        answersOfHole();
        answersOfOthers();
    }

    private static void due(String call, long got, long want) {
        check.due(call, got, want);
    }

    private static void numbersAndBounds() {
        check.test("1: HOLES 0, 1, .. as they come", HoleEdgesTest::numbersAsTheyCome);
        check.test("1: 20 at most", HoleEdgesTest::twentyAtMost);
        check.test("1: ROW 0 .. 4", () -> bounds(0, 0, 4));
        check.test("1: COLUMN 0 .. 9", () -> bounds(1, 0, 9));
        check.test("1: KIND 0 .. 5", () -> bounds(2, 0, 5));
        check.test("1: CHARGE 1 .. 99", () -> bounds(3, 1, 99));
        check.test("1: BURDEN 1 .. 20", () -> bounds(4, 1, 20));
        check.test("1: IN 0 .. 999", () -> bounds(5, 0, 999));
        check.test("1: one at most at a place", HoleEdgesTest::oneAtAPlace);
        check.test("1: every place of the face can be taken", HoleEdgesTest::everyPlace);
        check.test("1: DEAD or not, not at first", HoleEdgesTest::notDeadAtFirst);
    }

    private static void numbersAsTheyCome() {
        BlastFace x = new BlastFace();
        due("the first", x.hole(4, 9, 5, 1, 1, 0), 0);
        due("the next, though ahead of it", x.hole(0, 0, 0, 1, 1, 0), 1);
        x.drop();
        due("a number comes again", x.hole(3, 3, 0, 1, 1, 0), 1);
        due("and is who came", x.of(1, 0), 3);
    }

    private static void twentyAtMost() {
        BlastFace x = new BlastFace();
        for (int i = 0; i < 19; i++) x.hole(i / 10, i % 10, 0, 1, 1, 0);
        due("the 20th", x.hole(4, 9, 3, 7, 1, 0), 19);
        due("a 21st", x.hole(4, 8, 0, 1, 1, 0), FULL);
        due("there are 20", x.count(0), 20);
        due("the 20th is there", x.of(19, 3), 7);
        due("a 21st is not", x.of(20, 3), NONE);
        x.drop();
        due("room again for one", x.hole(4, 8, 0, 1, 1, 0), 19);
        due("not for two", x.hole(4, 9, 0, 1, 1, 0), FULL);
    }

    /** A HOLE whose mark `what` is v, all others in the middle. */
    private static int comes(BlastFace x, int what, int v) {
        int[] h = {2, 5, 0, 10, 10, 10};
        h[what] = v;
        return Scene.hole(x, h);
    }

    private static void bounds(int what, int least, int most) {
        for (int v : new int[] {least, most}) {
            BlastFace x = new BlastFace();
            due("taken: " + v, comes(x, what, v), 0);
            due("it is that", x.of(0, what), v);
        }
        for (int v : new int[] {least - 1, most + 1, LOW, HIGH, least + 65536, least + (1 << 31)}) {
            BlastFace x = new BlastFace();
            due("refused: " + v, comes(x, what, v), BAD);
            due("none came", x.count(0), 0);
        }
    }

    private static void oneAtAPlace() {
        BlastFace x = Scene.holes(Scene.at(1, 2, 0));
        due("the same place", x.hole(1, 2, 5, 9, 9, 9), STATE);
        due("one COLUMN on", x.hole(1, 3, 0, 1, 1, 0), 1);
        due("one ROW on", x.hole(2, 2, 0, 1, 1, 0), 2);
        due("ROW and COLUMN the other way round", x.hole(2, 1, 0, 1, 1, 0), 3);
        x.becomes(0, Scene.DEAD, 1);
        due("a DEAD one's place", x.hole(1, 2, 0, 1, 1, 0), STATE);
        due("the last one's place", x.hole(2, 1, 0, 1, 1, 0), STATE);
        x.drop();
        due("free again by drop()", x.hole(2, 1, 0, 1, 1, 0), 3);
    }

    private static void everyPlace() {
        for (int row = 0; row < 5; row++) {
            for (int column = 0; column < 10; column++) {
                BlastFace x = Scene.holes(Scene.at(row, column, 0));
                int all = 1;
                for (int other = 0; other < 10; other++) all += x.hole(row, other, 0, 1, 1, 0) == all ? 1 : 0;
                due("beside (" + row + ", " + column + ")", all, 10);
            }
        }
    }

    private static void notDeadAtFirst() {
        for (int k = 0; k < KINDS; k++) due("KIND " + k, Scene.lone(k, 1, 1, 0).of(0, 6), 0);
        BlastFace x = Scene.lone(0, 1, 1, 0);
        x.becomes(0, Scene.DEAD, 1);
        x.drop();
        x.hole(0, 4, 0, 1, 1, 0);
        due("nor behind a DEAD one of its number", x.of(0, 6), 0);
    }

    private static void whatKindsSay() {
        check.test("1: KIND 0 HOLE: one, IN behind, of CHARGE", () -> shots(0, 1, "0/1/0", 99, "0/99/0"));
        check.test("1: SLIM: one of half of CHARGE, cut, and 1", HoleEdgesTest::slims);
        check.test("1: DECK: half of CHARGE, rounded up; 17 later the rest", HoleEdgesTest::decks);
        check.test("1: DECK: none, if the rest is 0", () -> shots(2, 1, "0/1/0", 2, "0/1/0 17/1/0"));
        check.test("1: HEAVY: as a DECK, each of twice that LOAD", HoleEdgesTest::heavies);
        check.test("1: HEAVY: none either, if the rest is 0", () -> shots(3, 1, "0/2/0", 2, "0/2/0 17/2/0"));
        check.test("1: BUFFER: as a SLIM, its LOAD 9 at most", HoleEdgesTest::buffers);
        check.test("1: DUMMY: none", () -> shots(5, 1, "", 99, ""));
        check.test("1: IN behind the SIGNAL: 0 and 999", HoleEdgesTest::inBehind);
        check.test("1: LOADS: of its SHOTS together", HoleEdgesTest::loadsTogether);
        check.test("1: ROCK", () -> ofKinds(8, new int[] {4, 4, 5, 5, 4, 0}, new int[] {80, 80, 100, 100, 80, 0}));
        check.test("1: NEEDS", () -> ofKinds(9, new int[] {2, 1, 2, 3, 3, 0}, new int[] {40, 39, 40, 60, 60, 0}));
        check.test("In doubt: to be under a KIND goes on from KIND to KIND", HoleEdgesTest::underGoesOn);
    }

    private static void shots(int kind, int charge, String want) {
        check.due("KIND " + kind + ", CHARGE " + charge, Scene.shots(Scene.lone(kind, charge, 1, 0)), want);
    }

    private static void shots(int kind, int charge, String want, int otherCharge, String otherWant) {
        shots(kind, charge, want);
        shots(kind, otherCharge, otherWant);
    }

    private static void slims() {
        shots(1, 1, "0/1/0", 2, "0/2/0");
        shots(1, 3, "0/2/0", 4, "0/3/0");
        shots(1, 98, "0/50/0", 99, "0/50/0");
    }

    private static void decks() {
        shots(2, 3, "0/2/0 17/1/0", 4, "0/2/0 17/2/0");
        shots(2, 98, "0/49/0 17/49/0", 99, "0/50/0 17/49/0");
    }

    private static void heavies() {
        shots(3, 3, "0/4/0 17/2/0", 4, "0/4/0 17/4/0");
        shots(3, 98, "0/98/0 17/98/0", 99, "0/100/0 17/98/0");
    }

    private static void buffers() {
        shots(4, 1, "0/1/0", 15, "0/8/0");
        shots(4, 16, "0/9/0", 17, "0/9/0");
        shots(4, 18, "0/9/0", 99, "0/9/0");
    }

    private static void inBehind() {
        for (int in : new int[] {0, 1, 999}) {
            BlastFace x = Scene.holes(Scene.at(0, 0, Scene.DECK, 2, 1, in));
            x.wire(-1, 0, 3);
            check.due("IN " + in, Scene.shots(x), (3 + in) + "/1/0 " + (20 + in) + "/1/0");
        }
    }

    private static void loadsTogether() {
        ofCharge(7, 1, 1, 1, 1, 2, 1, 0);
        ofCharge(7, 2, 2, 2, 2, 4, 2, 0);
        ofCharge(7, 99, 99, 50, 99, 198, 9, 0);
    }

    private static void ofCharge(int what, int charge, int... want) {
        for (int k = 0; k < KINDS; k++)
            due("KIND " + k + ", CHARGE " + charge, Scene.lone(k, charge, 1, 0).of(0, what), want[k]);
    }

    /** By the least and by the greatest BURDEN. */
    private static void ofKinds(int what, int[] least, int[] most) {
        for (int k = 0; k < KINDS; k++) {
            due("KIND " + k + ", BURDEN 1", Scene.lone(k, 50, 1, 0).of(0, what), least[k]);
            BlastFace x = Scene.lone(k, 50, 20, 0);
            due("KIND " + k + ", BURDEN 20", x.of(0, what), most[k]);
            x.becomes(0, Scene.BURDEN, 1);
            due("KIND " + k + ", BURDEN becomes 1", x.of(0, what), least[k]);
        }
    }

    private static void underGoesOn() {
        boolean[][] is = {
            {true, false, false, false, false, false},
            {true, true, false, false, false, false},
            {true, false, true, false, false, false},
            {true, false, true, true, false, false},
            {true, true, false, false, true, false},
            {true, true, false, false, true, true}};
        for (int h = 0; h < KINDS; h++) {
            BlastFace x = Scene.lone(h, 5, 1, 0);
            for (int k = 0; k < KINDS; k++) due("a " + h + " for a " + k, x.taken(0, k) == STATE ? 0 : 1, is[h][k] ? 1 : 0);
        }
    }

    private static void whatIsMade() {
        check.test("1: MADE: 2, if its ROW is 0", HoleEdgesTest::madeByRow);
        check.test("1: MADE: the bodies in their order", HoleEdgesTest::madeByKind);
        check.test("1: MADE: 9, if its BURDEN is 1", HoleEdgesTest::madeByBurden);
        check.test("1: MADE: 9 of a DUMMY alone", HoleEdgesTest::madeOfDummyAlone);
        check.test("1: MADE: what BURDEN becomes later is no matter", HoleEdgesTest::madeStays);
    }

    private static void made(int row, int kind, int burden, int want) {
        due("ROW " + row + ", KIND " + kind + ", BURDEN " + burden, Scene.holes(Scene.at(row, 0, kind, 5, burden, 0)).of(0, MADE), want);
    }

    private static void madeByRow() {
        made(0, 0, 2, 123);
        for (int row = 1; row < 5; row++) made(row, 0, 2, 13);
        made(0, 5, 2, 1234578);
        made(1, 5, 2, 134578);
    }

    private static void madeByKind() {
        int[] want = {123, 12345, 12345, 123456, 123457, 1234578};
        for (int k = 0; k < KINDS; k++) made(0, k, 2, want[k]);
    }

    private static void madeByBurden() {
        made(0, 5, 1, 12345789);
        made(4, 5, 1, 1345789);
        made(0, 5, 2, 1234578);
        made(0, 5, 20, 1234578);
    }

    private static void madeOfDummyAlone() {
        int[] want = {123, 12345, 12345, 123456, 123457, 12345789};
        for (int k = 0; k < KINDS; k++) made(0, k, 1, want[k]);
    }

    private static void madeStays() {
        BlastFace x = Scene.holes(Scene.at(0, 0, 5, 5, 1, 0), Scene.at(0, 1, 5, 5, 2, 0));
        x.becomes(0, Scene.BURDEN, 2);
        x.becomes(1, Scene.BURDEN, 1);
        due("came with 1", x.of(0, MADE), 12345789);
        due("came with 2", x.of(1, MADE), 1234578);
        x.image();
        x.drop();
        x.undo();
        due("as it came, also by undo()", x.of(1, MADE), 1234578);
    }

    private static void whatIsAhead() {
        check.test("2: AHEAD: one ROW less", HoleEdgesTest::aheadByRow);
        check.test("2: AHEAD: at most 1 COLUMN off", HoleEdgesTest::aheadByColumn);
        check.test("2: AHEAD: no DUMMIES, but DEAD ones, too", HoleEdgesTest::aheadByKind);
        check.test("3: AHEAD as bits: the least and the greatest number", HoleEdgesTest::aheadBits);
    }

    private static void aheadByRow() {
        for (int row = 0; row < 5; row++) {
            BlastFace x = Scene.holes(Scene.at(2, 4, 0), Scene.at(row, 5, 0));
            due("AHEAD of ROW 2 is ROW " + row, x.of(0, AHEAD), row == 1 ? 2 : 0);
            due("of ROW " + row + " is ROW 2", x.of(1, AHEAD), row == 3 ? 1 : 0);
        }
        due("of ROW 0 nobody", Scene.holes(Scene.at(0, 0, 0), Scene.at(4, 0, 0)).of(0, AHEAD), 0);
    }

    private static void aheadByColumn() {
        for (int column = 0; column < 10; column++) {
            BlastFace x = Scene.holes(Scene.at(1, 4, 0), Scene.at(0, column, 0));
            due("COLUMN " + column + " of 4", x.of(0, AHEAD), column >= 3 && column <= 5 ? 2 : 0);
        }
        due("COLUMNS 9 and 0 are no neighbours", Scene.holes(Scene.at(1, 0, 0), Scene.at(0, 9, 0)).of(0, AHEAD), 0);
    }

    private static void aheadByKind() {
        for (int k = 0; k < KINDS; k++) {
            BlastFace x = Scene.holes(Scene.at(1, 4, 0), Scene.at(0, 4, k, 1, 1, 0));
            due("KIND " + k, x.of(0, AHEAD), k == 5 ? 0 : 2);
            x.becomes(1, Scene.DEAD, 1);
            due("KIND " + k + ", DEAD", x.of(0, AHEAD), k == 5 ? 0 : 2);
        }
        due("a DUMMY has HOLES AHEAD", Scene.holes(Scene.at(1, 4, 5, 1, 1, 0), Scene.at(0, 4, 0)).of(0, AHEAD), 2);
    }

    private static void aheadBits() {
        BlastFace x = Scene.twenty(0, 1);
        due("of HOLE 10", x.of(10, AHEAD), 1 + 2);
        due("of HOLE 19", x.of(19, AHEAD), 256 + 512);
        x.drop();
        due("one comes in front of nobody", x.hole(4, 9, 0, 1, 1, 0), 19);
        due("AHEAD of it nobody", x.of(19, AHEAD), 0);
        BlastFace y = new BlastFace();
        y.hole(1, 9, 0, 1, 1, 0);
        for (int i = 1; i < 19; i++) y.hole(2 + i / 10, i % 10, 0, 1, 1, 0);
        y.hole(0, 9, 0, 1, 1, 0);
        due("HOLE 19 AHEAD of HOLE 0", y.of(0, AHEAD), 1 << 19);
    }

    private static void answersOfHole() {
        check.test("Promise 1: No HOLES, no WIRES", HoleEdgesTest::newObject);
        check.test("Promise 2: its number", () -> due("the 20th", Scene.twenty(0, 1).count(0), 20));
        check.test("Promise 2: BAD: any of them", HoleEdgesTest::badAnyOfThem);
        check.test("Promise 2: BAD ahead of STATE ahead of FULL", HoleEdgesTest::orderOfHole);
    }

    private static void newObject() {
        BlastFace x = new BlastFace();
        due("HOLES", x.count(0), 0);
        due("WIRES", x.count(1), 0);
        due("no HOLE 0", x.of(0, 0), NONE);
        due("no WIRE 0", x.wired(0, 0), NONE);
        due("no SHOT 0", x.shot(0, 0), NONE);
        due("no byte 0", x.paper(0), NONE);
    }

    private static void badAnyOfThem() {
        BlastFace x = new BlastFace();
        int[] low = {-1, -1, -1, 0, 0, -1};
        int[] high = {5, 10, 6, 100, 21, 1000};
        for (int what = 0; what < 6; what++) {
            due("too small: " + what, comes(x, what, low[what]), BAD);
            due("too great: " + what, comes(x, what, high[what]), BAD);
        }
        due("all of them", Scene.hole(x, high), BAD);
        due("the place is free all the same", comes(x, 0, 2), 0);
    }

    private static void orderOfHole() {
        BlastFace x = Scene.twenty(0, 1);
        due("STATE and FULL", x.hole(0, 0, 0, 1, 1, 0), STATE);
        due("BAD and FULL", x.hole(4, 0, 0, 1, 1, -1), BAD);
        due("BAD and STATE and FULL", x.hole(0, 0, 0, 1, 1, -1), BAD);
        due("FULL alone", x.hole(4, 0, 0, 1, 1, 0), FULL);
        BlastFace y = Scene.holes(Scene.at(0, 0, 0));
        due("BAD and STATE", y.hole(0, 0, 0, 100, 1, 0), BAD);
    }

    private static void answersOfOthers() {
        check.test("Promise 3: what 0 .. 11", HoleEdgesTest::whatOfHole);
        check.test("Promise 3: NONE: no such HOLE", HoleEdgesTest::noSuchHole);
        check.test("Promise 4: CHARGE becomes 1 .. 99", () -> becomes(3, 1, 99));
        check.test("Promise 4: BURDEN becomes 1 .. 20", () -> becomes(4, 1, 20));
        check.test("Promise 4: IN becomes 0 .. 999", () -> becomes(5, 0, 999));
        check.test("Promise 4: DEAD becomes 1, 0", () -> becomes(6, 0, 1));
        check.test("Promise 4: what 3 .. 6, no other", HoleEdgesTest::becomesWhat);
        check.test("Promise 4: NONE: hole, ahead of BAD", HoleEdgesTest::becomesNone);
        check.test("Promise 5: its LOADS", HoleEdgesTest::takenLoads);
        check.test("Promise 5: NONE ahead of BAD ahead of STATE", HoleEdgesTest::takenOrder);
        check.test("Promise 10: the last HOLE, nor are WIRES from and to it", HoleEdgesTest::dropWires);
        check.test("Promise 10: it is none any more, AHEAD of nobody", HoleEdgesTest::dropAhead);
        check.test("Promise 10: how many HOLES there are", HoleEdgesTest::dropAll);
        check.test("Promise 10: STATE: there are none", HoleEdgesTest::dropNone);
        check.test("Promise 18: the first n, 0 .. 4", HoleEdgesTest::loadsOfFirst);
        check.test("Promise 18: one told twice counted twice", HoleEdgesTest::loadsTwice);
        check.test("Promise 18: BAD: n", HoleEdgesTest::loadsBad);
        check.test("Promise 18: NONE: one of these n is none", HoleEdgesTest::loadsNone);
    }

    private static void whatOfHole() {
        BlastFace x = Scene.holes(Scene.at(0, 5, 0), Scene.at(1, 6, 4, 30, 7, 8));
        int[] want = {1, 6, 4, 30, 7, 8, 0, 9, 28, 21, 13457, 1};
        for (int what = 0; what < 12; what++) due("what " + what, x.of(1, what), want[what]);
        for (int what : new int[] {-1, 12, LOW, HIGH, 256}) due("what " + what, x.of(1, what), NONE);
    }

    private static void noSuchHole() {
        BlastFace x = Scene.twenty(0, 1);
        due("the least", x.of(0, 3), 1);
        due("the greatest", x.of(19, 3), 1);
        for (int hole : new int[] {-1, 20, LOW, HIGH, 256}) due("hole " + hole, x.of(hole, 3), NONE);
        x.drop();
        due("the last but one", x.of(18, 3), 1);
        due("none any more", x.of(19, 3), NONE);
    }

    private static void becomes(int what, int least, int most) {
        BlastFace x = Scene.holes(Scene.at(2, 2, 0), Scene.at(3, 3, 0));
        int was = x.of(1, what);
        for (int v : new int[] {most, least}) {
            due("becomes " + v + ": what it was", x.becomes(1, what, v), was);
            due("it is", x.of(1, what), v);
            was = v;
        }
        for (int v : new int[] {least - 1, most + 1, LOW, HIGH, least + 65536}) {
            due("becomes " + v, x.becomes(1, what, v), BAD);
            due("it stays", x.of(1, what), least);
        }
        due("the other one stays", x.of(0, what), what == 3 || what == 4 ? 1 : 0);
    }

    private static void becomesWhat() {
        BlastFace x = Scene.holes(Scene.at(1, 1, 0, 1, 1, 1));
        for (int what : new int[] {2, 1, 0, -1, 7, 8, 10, 11, 12, LOW, HIGH}) due("what " + what, x.becomes(0, what, 1), BAD);
        int[] was = {1, 1, 1, 0};
        for (int what = 3; what < 7; what++) due("what " + what, x.becomes(0, what, 1), was[what - 3]);
    }

    private static void becomesNone() {
        BlastFace x = Scene.holes(Scene.at(0, 0, 0));
        for (int hole : new int[] {-1, 1, LOW, HIGH}) {
            due("hole " + hole, x.becomes(hole, 3, 1), NONE);
            due("hole " + hole + " and v", x.becomes(hole, 3, 0), NONE);
            due("hole " + hole + " and what", x.becomes(hole, 7, 1), NONE);
        }
        due("on a new object", new BlastFace().becomes(0, 3, 1), NONE);
    }

    private static void takenLoads() {
        BlastFace x = new BlastFace();
        for (int k = 0; k < KINDS; k++) x.hole(0, k, k, 99, 1, 0);
        int[] own = {99, 50, 99, 198, 9, 0};
        for (int k = 0; k < KINDS; k++) {
            due("a " + k + " for itself", x.taken(k, k), own[k]);
            due("a " + k + " for a HOLE", x.taken(k, 0), own[k]);
        }
        due("a HEAVY for a DECK", x.taken(3, 2), 198);
        due("a BUFFER for a SLIM", x.taken(4, 1), 9);
    }

    private static void takenOrder() {
        BlastFace x = Scene.holes(Scene.at(0, 0, 0));
        for (int kind : new int[] {-1, 6, LOW, HIGH}) {
            due("kind " + kind, x.taken(0, kind), BAD);
            due("hole 1 and kind " + kind, x.taken(1, kind), NONE);
            due("hole -1 and kind " + kind, x.taken(-1, kind), NONE);
        }
        for (int kind = 1; kind < KINDS; kind++) due("it is none: " + kind, x.taken(0, kind), STATE);
        due("it is one", x.taken(0, 0), 1);
        due("no such HOLE that is none", x.taken(1, 5), NONE);
    }

    private static void dropWires() {
        BlastFace x = Scene.holes(Scene.at(0, 0, 0), Scene.at(0, 1, 0), Scene.at(0, 2, 0));
        x.wire(-1, 2, 10);
        x.wire(2, 0, 11);
        x.wire(0, 1, 12);
        x.wire(1, 2, 13);
        x.wire(-1, 0, 14);
        x.wire(2, 1, 15);
        due("drop()", x.drop(), 2);
        due("WIRES left", x.count(1), 2);
        due("the first of these", x.wired(0, 2), 12);
        due("the second", x.wired(1, 2), 14);
        due("no third", x.wired(2, 2), NONE);
        x.hole(0, 2, 0, 1, 1, 0);
        due("a new HOLE 2 has none", x.time(2, 0), NONE);
    }

    private static void dropAhead() {
        BlastFace x = Scene.holes(Scene.at(1, 0, 9), Scene.at(0, 0, 0), Scene.at(1, 1, 9), Scene.at(0, 1, 0));
        due("two AHEAD", x.of(0, AHEAD), 2 + 8);
        x.drop();
        due("one AHEAD", x.of(0, AHEAD), 2);
        due("likewise of another one", x.of(2, AHEAD), 2);
        x.wire(-1, 0, 0);
        x.wire(-1, 1, 0);
        due("the one that is gone hinders nobody", x.sets(1), 0);
        x.hole(4, 4, 0, 1, 1, 0);
        due("who has its number is not AHEAD", x.of(0, AHEAD), 2);
        x.drop();
        x.drop();
        x.drop();
        due("nobody AHEAD", x.of(0, AHEAD), 0);
    }

    private static void dropAll() {
        BlastFace x = Scene.twenty(0, 1);
        for (int i = 0; i < 40; i++) x.wire(i % 20, (i + 1) % 20, 1);
        for (int left = 19; left >= 0; left--) due("drop()", x.drop(), left);
        due("no WIRES", x.count(1), 0);
        due("no HOLES", x.count(0), 0);
    }

    private static void dropNone() {
        BlastFace x = new BlastFace();
        due("a new object", x.drop(), STATE);
        x.hole(0, 0, 0, 1, 1, 0);
        due("the only one", x.drop(), 0);
        due("none any more", x.drop(), STATE);
        due("there are none", x.count(0), 0);
    }

    private static BlastFace fourLoads() {
        return Scene.holes(Scene.at(0, 0, 0, 1, 1, 0), Scene.at(0, 1, 0, 10, 1, 0), Scene.at(0, 2, 2, 50, 1, 0), Scene.at(0, 3, 3, 99, 1, 0));
    }

    private static void loadsOfFirst() {
        BlastFace x = fourLoads();
        int[] want = {0, 1, 11, 61, 259};
        for (int n = 0; n < 5; n++) due("n " + n, x.loads(n, 0, 1, 2, 3), want[n]);
        due("on a new object", new BlastFace().loads(0, 0, 0, 0, 0), 0);
    }

    private static void loadsTwice() {
        BlastFace x = fourLoads();
        due("twice", x.loads(2, 1, 1, 0, 0), 20);
        due("four times the most", x.loads(4, 3, 3, 3, 3), 4 * 198);
        due("the last as the first", x.loads(4, 1, 0, 0, 1), 22);
    }

    private static void loadsBad() {
        BlastFace x = fourLoads();
        for (int n : new int[] {-1, 5, LOW, HIGH}) {
            due("n " + n, x.loads(n, 0, 0, 0, 0), BAD);
            due("n " + n + ", ahead of NONE", x.loads(n, 4, -1, HIGH, LOW), BAD);
        }
    }

    private static void loadsNone() {
        BlastFace x = fourLoads();
        for (int none : new int[] {-1, 4, LOW, HIGH}) {
            for (int place = 0; place < 4; place++) {
                int[] h = {0, 0, 0, 0};
                h[place] = none;
                for (int n = 0; n < 5; n++)
                    due("n " + n + ", " + none + " at " + place, x.loads(n, h[0], h[1], h[2], h[3]), place < n ? NONE : n);
            }
        }
        due("the greatest HOLE", x.loads(1, 3, 4, 4, 4), 198);
    }
}
