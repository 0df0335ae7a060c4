/** Edges of CLOCK, LISTS, THE IMAGE and how many: terms 6, promises 29 to 39, and the 512 calls. */
public final class KeptEdgesTest {
    private static final int NONE = Scene.NONE, BAD = Scene.BAD, STATE = Scene.STATE;
    private static final int MISSING = Scene.MISSING, OUTSIDE = Scene.OUTSIDE, SIZE = Scene.SIZE;
    private static final long NO = Scene.NO;
    private static final int LOW = Scene.LOW, HIGH = Scene.HIGH;
    private static Check check;

    public static void main(String[] args) {
        Check all = new Check();
        all(all);
        all.end("KeptEdgesTest");
    }

    static void all(Check to) {
        check = to;
        clock();
        clockIsZeroAgain();
        steps();
        lists();
        fills();
        judges();
        moves();
        images();
        counts();
    }

    private static void due(String call, long got, long want) {
        check.due(call, got, want);
    }

    /** Three SHOTS: 0 at 0, 1 at 5 and, as it is a DECK, at 22. */
    private static BlastFace three() {
        return Scene.started(Scene.at(0, 0, 0, 7, 1, 0), Scene.at(0, 9, 2, 5, 1, 5));
    }

    private static BlastFace steppedTwice() {
        BlastFace x = three();
        x.step();
        x.step();
        return x;
    }

    private static void clock() {
        check.test("6: CLOCK: 0 at first", KeptEdgesTest::clockAtFirst);
        check.test("6: CLOCK stays by what is refused", KeptEdgesTest::clockStaysRefused);
        check.test("6: CLOCK stays by all that is not named", KeptEdgesTest::clockStaysElse);
    }

    private static void clockAtFirst() {
        due("a new object", new BlastFace().stepped(0), 0);
        due("with SHOTS", three().stepped(0), 0);
        due("the first SHOT is next", three().step(), 0);
    }

    private static void clockStaysRefused() {
        BlastFace x = steppedTwice();
        due("hole()", x.hole(0, 0, 0, 1, 1, 0), STATE);
        due("hole()", x.hole(0, 1, 0, 0, 1, 0), BAD);
        due("becomes()", x.becomes(2, 3, 1), NONE);
        due("becomes()", x.becomes(0, 3, 0), BAD);
        due("wire()", x.wire(0, 0, 0), NONE);
        due("wire()", x.wire(0, 1, 501), BAD);
        due("cut()", x.cut(2), NONE);
        due("rule()", x.rule(3, 1), NONE);
        due("rule()", x.rule(0, 0), BAD);
        due("read()", Check.text(x, "pace x"), -105);
        due("read()", Check.text(x, "pace 4"), -300);
        due("read() of nothing", x.read(), -100);
        due("undo()", x.undo(), STATE);
        due("CLOCK", x.stepped(0), 2);
        due("the next SHOT", x.step(), 1);
        due("step()", x.step(), STATE);
        due("CLOCK", x.stepped(0), 3);
    }

    private static void clockStaysElse() {
        BlastFace x = steppedTwice();
        x.feed('x');
        x.list(0, 3);
        x.put(0, 0, 1);
        x.fill(0, 2);
        x.move(0, 0, 0, 1, 2);
        x.judge(0, 0);
        x.image();
        x.misfire(0, 0);
        x.broken(0, 3);
        x.critical(0);
        x.critical(1);
        x.plan(0);
        x.planned(2);
        x.spell();
        x.paper(0);
        due("CLOCK", x.stepped(0), 2);
        due("the next SHOT", x.step(), 1);
    }

    private static void clockIsZeroAgain() {
        check.test("6: CLOCK: 0 again by hole()", () -> again(x -> x.hole(4, 4, 5, 1, 1, 0)));
        check.test("6: CLOCK: 0 again by becomes()", () -> again(x -> x.becomes(0, 5, 1)));
        check.test("6: CLOCK: 0 again by wire()", () -> again(x -> x.wire(-1, 0, 500)));
        check.test("6: CLOCK: 0 again by cut()", () -> again(x -> x.cut(1)));
        check.test("6: CLOCK: 0 again by rule()", () -> again(x -> x.rule(2, 26)));
        check.test("6: CLOCK: 0 again by drop()", () -> again(x -> x.drop()));
        check.test("6: CLOCK: 0 again by adopt()", () -> again(x -> x.adopt()));
        check.test("6: CLOCK: 0 again by read()", () -> again(x -> Check.text(x, "limit 99")));
        check.test("6: CLOCK: 0 again, though nothing be otherwise", KeptEdgesTest::nothingOtherwise);
    }

    private interface Call {
        int on(BlastFace x);
    }

    private static void again(Call call) {
        BlastFace x = steppedTwice();
        due("done", call.on(x) >= 0 ? 1 : 0, 1);
        due("CLOCK", x.stepped(0), 0);
        due("LOADS", x.stepped(1), 0);
        due("time", x.stepped(2), NONE);
        due("HOLES", x.stepped(3), 0);
        due("the first SHOT is next", x.step(), 0);
    }

    private static void nothingOtherwise() {
        again(x -> x.becomes(0, 3, 7));
        again(x -> x.becomes(0, 6, 0));
        again(x -> x.rule(0, 8));
        again(x -> x.rule(1, 100));
        again(x -> Check.text(x, "pace 25"));
        BlastFace x = Scene.holes(Scene.at(0, 0, 0));
        x.wire(-1, 0, 0);
        x.step();
        due("adopt() as it is", x.adopt(), 1);
        due("CLOCK", x.stepped(0), 0);
        BlastFace y = Scene.started(Scene.at(1, 0, 0));
        y.step();
        due("adopt() of nobody is done, too", y.adopt(), 0);
        due("CLOCK", y.stepped(0), 0);
    }

    private static void steps() {
        check.test("Promise 29: its HOLE", KeptEdgesTest::stepsOfAll);
        check.test("Promise 29: STATE: there is none any more", KeptEdgesTest::stepNone);
        check.test("Promise 30: NONE: there are none", KeptEdgesTest::steppedNone);
        check.test("Promise 30: HOLES (of those that FIRE) all of whose SHOTS are", KeptEdgesTest::steppedHoles);
        check.test("Promise 30: NONE: what", KeptEdgesTest::steppedWhat);
    }

    private static void stepsOfAll() {
        BlastFace x = three();
        int[] holes = {0, 1, 1}, loads = {7, 10, 12}, times = {0, 5, 22}, all = {1, 1, 3};
        for (int i = 0; i < 3; i++) {
            due("step()", x.step(), holes[i]);
            due("CLOCK", x.stepped(0), i + 1);
            due("LOADS", x.stepped(1), loads[i]);
            due("time", x.stepped(2), times[i]);
            due("HOLES", x.stepped(3), all[i]);
        }
        BlastFace y = Scene.twenty(3, 99);
        for (int i = 0; i < 20; i++) y.wire(-1, i, 0);
        for (int i = 0; i < 40; i++) due("of 40 SHOTS", y.step(), i % 20);
        due("a 41st", y.step(), STATE);
        due("LOADS of all", y.stepped(1), 3960);
        due("HOLES", y.stepped(3), (1 << 20) - 1);
    }

    private static void stepNone() {
        due("a new object", new BlastFace().step(), STATE);
        due("a HOLE that does not FIRE", Scene.holes(Scene.at(0, 0, 0)).step(), STATE);
        due("a DUMMY", Scene.lone(5, 9, 1, 0).step(), STATE);
        BlastFace x = three();
        for (int i = 0; i < 3; i++) x.step();
        due("behind the last", x.step(), STATE);
        due("again", x.step(), STATE);
        due("CLOCK", x.stepped(0), 3);
        x.rule(0, 8);
        due("from the first again", x.step(), 0);
    }

    private static void steppedNone() {
        BlastFace x = three();
        int[] want = {0, 0, NONE, 0};
        for (int what = 0; what < 4; what++) {
            due("a new object: " + what, new BlastFace().stepped(what), want[what]);
            due("none yet: " + what, x.stepped(what), want[what]);
        }
        x.step();
        due("a time of 0 is one", x.stepped(2), 0);
    }

    private static void steppedHoles() {
        BlastFace x = Scene.started(Scene.at(0, 0, 5, 9, 1, 0), Scene.at(0, 1, 2, 1, 1, 0), Scene.at(0, 2, 2, 2, 1, 0), Scene.at(0, 3, 0), Scene.at(0, 4, 17));
        x.becomes(3, Scene.DEAD, 1);
        due("nobody, though a DUMMY and a DEAD one have none left", x.stepped(3), 0);
        x.step();
        due("a DECK of one SHOT", x.stepped(3), 2);
        x.step();
        due("a DECK of two", x.stepped(3), 2);
        x.step();
        due("its second", x.stepped(3), 2 + 4);
        x.step();
        due("the last", x.stepped(3), 2 + 4 + 16);
    }

    private static void steppedWhat() {
        BlastFace x = steppedTwice();
        int[] want = {2, 10, 5, 1};
        for (int what = 0; what < 4; what++) due("what " + what, x.stepped(what), want[what]);
        for (int what : new int[] {-1, 4, LOW, HIGH}) due("what " + what, x.stepped(what), NONE);
    }

    private static void lists() {
        check.test("6: LISTS 0 .. 3", KeptEdgesTest::listNumbers);
        check.test("6: LISTS: missing (at first)", KeptEdgesTest::missingAtFirst);
        check.test("6: LISTS: n (0 .. 40) longs", KeptEdgesTest::listSizes);
        check.test("Promise 31: n longs, all 0", KeptEdgesTest::allZero);
        check.test("Promise 31: missing, if n is -1: 1", KeptEdgesTest::missingAgain);
        check.test("Promise 31: NONE ahead of BAD, SIZE", KeptEdgesTest::listOrder);
        check.test("Promise 32: item i becomes v, whatever long", KeptEdgesTest::putLongs);
        check.test("Promise 32: NONE ahead of MISSING ahead of OUTSIDE", KeptEdgesTest::putOrder);
        check.test("Promise 33: NO: no such LIST, it is missing, no such place", KeptEdgesTest::getNo);
    }

    private static void listNumbers() {
        BlastFace x = new BlastFace();
        for (int list = 0; list < 4; list++) {
            due("list(" + list + ")", x.list(list, 2), 1);
            due("put", x.put(list, 0, 10 + list), 1);
        }
        for (int list = 0; list < 4; list++) due("each has its own", x.get(list, 0), 10 + list);
        for (int list : new int[] {-1, 4, LOW, HIGH}) due("list(" + list + ")", x.list(list, 2), NONE);
        for (int list = 0; list < 4; list++) due("all as before", x.get(list, 0), 10 + list);
    }

    private static void missingAtFirst() {
        for (int list = 0; list < 4; list++) {
            BlastFace x = three();
            due("put", x.put(list, 0, 1), MISSING);
            due("get", x.get(list, 0), NO);
            due("fill", x.fill(list, 0), MISSING);
            due("judge", x.judge(list, 0), MISSING);
            due("move", x.move(list, 0, list, 0, 0), MISSING);
        }
    }

    private static void listSizes() {
        BlastFace x = new BlastFace();
        due("40", x.list(0, 40), 1);
        due("its last place", x.put(0, 39, 5), 1);
        due("beyond", x.put(0, 40, 5), OUTSIDE);
        for (int n : new int[] {41, 100, HIGH}) due("list(0, " + n + ")", x.list(0, n), BAD);
        for (int n : new int[] {-2, -41, LOW}) due("list(0, " + n + ")", x.list(0, n), SIZE);
        due("it stays", x.get(0, 39), 5);
        due("0", x.list(0, 0), 1);
        due("no place", x.put(0, 0, 5), OUTSIDE);
        due("1", x.list(0, 1), 1);
        due("one place", x.put(0, 0, 5), 1);
        due("not two", x.put(0, 1, 5), OUTSIDE);
    }

    private static void allZero() {
        BlastFace x = new BlastFace();
        x.list(0, 40);
        for (int i = 0; i < 40; i++) x.put(0, i, -1 - i);
        x.list(0, 3);
        check.due("smaller", Scene.items(x, 0), "0 0 0");
        x.put(0, 2, 9);
        x.list(0, 5);
        check.due("greater", Scene.items(x, 0), "0 0 0 0 0");
        x.put(0, 4, 9);
        x.list(0, 5);
        check.due("as many", Scene.items(x, 0), "0 0 0 0 0");
        x.list(0, 40);
        for (int i = 0; i < 40; i++) due("item " + i, x.get(0, i), 0);
        x.put(0, 39, 9);
        x.list(0, -1);
        x.list(0, 40);
        due("behind missing", x.get(0, 39), 0);
    }

    private static void missingAgain() {
        BlastFace x = new BlastFace();
        due("missing already", x.list(0, -1), 1);
        x.list(0, 2);
        x.list(1, 2);
        due("missing again", x.list(0, -1), 1);
        due("put", x.put(0, 0, 1), MISSING);
        due("get", x.get(0, 0), NO);
        due("the other isn't", x.put(1, 0, 1), 1);
        x.list(0, 0);
        due("none is not missing", x.put(0, 0, 1), OUTSIDE);
    }

    private static void listOrder() {
        BlastFace x = new BlastFace();
        for (int list : new int[] {-1, 4}) {
            due("n 41", x.list(list, 41), NONE);
            due("n -2", x.list(list, -2), NONE);
            due("n -1", x.list(list, -1), NONE);
        }
        due("n 41 alone", x.list(0, 41), BAD);
        due("n -2 alone", x.list(0, -2), SIZE);
    }

    private static void putLongs() {
        BlastFace x = new BlastFace();
        x.list(0, 3);
        for (long v : new long[] {Long.MAX_VALUE, Long.MIN_VALUE, Long.MIN_VALUE + 1, -1, 0, 1L << 32, HIGH + 1L, LOW - 1L}) {
            due("put " + v, x.put(0, 1, v), 1);
            due("get", x.get(0, 1), v);
            due("the one ahead", x.get(0, 0), 0);
            due("the one behind", x.get(0, 2), 0);
        }
    }

    private static void putOrder() {
        BlastFace x = new BlastFace();
        x.list(0, 3);
        for (int list : new int[] {-1, 4, LOW, HIGH}) due("list " + list, x.put(list, -1, 1), NONE);
        due("missing, and no such place", x.put(1, -1, 1), MISSING);
        due("the first place", x.put(0, 0, 1), 1);
        due("the last place", x.put(0, 2, 1), 1);
        for (int i : new int[] {-1, 3, LOW, HIGH}) due("place " + i, x.put(0, i, 7), OUTSIDE);
        check.due("nothing is otherwise", Scene.items(x, 0), "1 0 1");
    }

    private static void getNo() {
        BlastFace x = new BlastFace();
        x.list(0, 3);
        due("the first", x.get(0, 0), 0);
        due("the last", x.get(0, 2), 0);
        for (int i : new int[] {-1, 3, 39, LOW, HIGH}) due("place " + i, x.get(0, i), NO);
        for (int list : new int[] {-1, 4, LOW, HIGH}) due("list " + list, x.get(list, 0), NO);
        due("missing", x.get(3, 0), NO);
        x.list(0, 0);
        due("no places", x.get(0, 0), NO);
    }

    private static void fills() {
        check.test("Promise 34: TIMES of those that FIRE, by HOLES, LOADS of these", KeptEdgesTest::fillByHoles);
        check.test("Promise 34: times of SHOTS", KeptEdgesTest::fillShots);
        check.test("Promise 34: as many as there are of both (the other items stay)", KeptEdgesTest::fillBoth);
        check.test("Promise 34: NONE: list, what; MISSING", KeptEdgesTest::fillNone);
    }

    private static void fillByHoles() {
        BlastFace x = Scene.started(Scene.at(0, 0, 3, 5, 1, 30), Scene.at(0, 1, 5, 5, 1, 1), Scene.at(0, 2, 0, 6, 1, 20), Scene.at(0, 3, 0, 7, 1, 10));
        x.becomes(3, Scene.DEAD, 1);
        x.hole(0, 4, 1, 8, 1, 9);
        x.wire(-1, 4, 500);
        x.list(0, 3);
        due("TIMES", x.fill(0, 0), 3);
        check.due("TIMES", Scene.items(x, 0), "30 20 509");
        due("LOADS", x.fill(0, 1), 3);
        check.due("LOADS", Scene.items(x, 0), "10 6 5");
        due("nobody", new BlastFace().list(0, 3), 1);
        BlastFace y = Scene.twenty(0, 7);
        for (int i = 0; i < 20; i++) y.wire(-1, i, i);
        y.list(0, 40);
        due("20 of them", y.fill(0, 0), 20);
        due("the last", y.get(0, 19), 19);
        due("none behind", y.get(0, 20), 0);
    }

    private static void fillShots() {
        BlastFace x = three();
        x.list(0, 3);
        due("three", x.fill(0, 2), 3);
        check.due("by time", Scene.items(x, 0), "0 5 22");
        BlastFace y = Scene.twenty(2, 2);
        for (int i = 0; i < 20; i++) y.wire(-1, i, i);
        y.list(3, 40);
        due("40, as many as a LIST can hold", y.fill(3, 2), 40);
        due("the last", y.get(3, 39), 36);
        due("all are so", y.judge(3, 2), NONE);
    }

    private static void fillBoth() {
        BlastFace x = three();
        x.list(0, 5);
        for (int i = 0; i < 5; i++) x.put(0, i, 77);
        due("fewer SHOTS than items", x.fill(0, 2), 3);
        check.due("the other items stay", Scene.items(x, 0), "0 5 22 77 77");
        x.list(0, 2);
        due("fewer items than SHOTS", x.fill(0, 2), 2);
        check.due("as many as fit", Scene.items(x, 0), "0 5");
        x.list(0, 0);
        due("no items", x.fill(0, 2), 0);
        BlastFace none = new BlastFace();
        none.list(0, 2);
        none.put(0, 0, 77);
        for (int what = 0; what < 3; what++) due("nobody FIRES: " + what, none.fill(0, what), 0);
        check.due("all stay", Scene.items(none, 0), "77 0");
    }

    private static void fillNone() {
        BlastFace x = three();
        x.list(0, 3);
        for (int what : new int[] {-1, 3, LOW, HIGH}) {
            due("what " + what, x.fill(0, what), NONE);
            due("what " + what + " and missing", x.fill(1, what), NONE);
        }
        for (int list : new int[] {-1, 4, LOW, HIGH}) due("list " + list, x.fill(list, 0), NONE);
        due("missing", x.fill(1, 0), MISSING);
        check.due("nothing is laid", Scene.items(x, 0), "0 0 0");
        due("missing, and nobody FIRES", new BlastFace().fill(0, 0), MISSING);
    }

    private static void judges() {
        check.test("Promise 35: the first item that is not so as fill() would lay it", KeptEdgesTest::judgeFirst);
        check.test("Promise 35: or is beyond all that it would lay", KeptEdgesTest::judgeBeyond);
        check.test("Promise 35: NONE: all are so", KeptEdgesTest::judgeAll);
        check.test("Promise 35: NONE: list, what; MISSING", KeptEdgesTest::judgeNone);
    }

    private static void judgeFirst() {
        for (int wrong = 0; wrong < 3; wrong++) {
            BlastFace x = three();
            x.list(0, 3);
            x.fill(0, 2);
            x.put(0, 2, 99);
            x.put(0, wrong, 99);
            due("item " + wrong, x.judge(0, 2), wrong);
        }
        BlastFace x = three();
        x.list(0, 3);
        x.fill(0, 2);
        x.put(0, 1, 5 + (1L << 32));
        due("the whole long counts", x.judge(0, 2), 1);
        due("judging changes nothing", x.get(0, 1), 5 + (1L << 32));
    }

    private static void judgeBeyond() {
        BlastFace x = three();
        x.list(0, 4);
        x.fill(0, 2);
        due("a fourth item", x.judge(0, 2), 3);
        x.put(0, 3, 22);
        due("whatever it is", x.judge(0, 2), 3);
        BlastFace none = new BlastFace();
        none.list(0, 1);
        for (int what = 0; what < 3; what++) due("nobody FIRES: " + what, none.judge(0, what), 0);
        BlastFace y = Scene.twenty(0, 7);
        for (int i = 0; i < 20; i++) y.wire(-1, i, 0);
        y.list(0, 40);
        for (int what = 0; what < 3; what++) due("beyond 20 of 0: " + what, y.judge(0, what), what == 1 ? 0 : 20);
    }

    private static void judgeAll() {
        BlastFace x = three();
        for (int n = 0; n <= 3; n++) {
            x.list(0, n);
            x.fill(0, 2);
            due("a LIST of " + n, x.judge(0, 2), NONE);
        }
        x.list(0, 2);
        x.fill(0, 0);
        due("TIMES", x.judge(0, 0), NONE);
        due("TIMES are no LOADS", x.judge(0, 1), 0);
        x.fill(0, 1);
        due("LOADS", x.judge(0, 1), NONE);
        BlastFace none = new BlastFace();
        none.list(0, 0);
        due("no items, nobody", none.judge(0, 0), NONE);
    }

    private static void judgeNone() {
        BlastFace x = three();
        x.list(0, 3);
        for (int what : new int[] {-1, 3, LOW, HIGH}) {
            due("what " + what, x.judge(0, what), NONE);
            due("what " + what + " and missing", x.judge(1, what), NONE);
        }
        for (int list : new int[] {-1, 4, LOW, HIGH}) due("list " + list, x.judge(list, 0), NONE);
        due("missing", x.judge(1, 0), MISSING);
        due("missing again", x.judge(3, 2), MISSING);
    }

    private static void moves() {
        check.test("Promise 36: n items from i on to another one from j on", KeptEdgesTest::moveToOther);
        check.test("Promise 36: or the same, as they all were before", KeptEdgesTest::moveInSame);
        check.test("Promise 36: OUTSIDE: n, i or j is below 0", KeptEdgesTest::moveBelow);
        check.test("Promise 36: OUTSIDE: beyond either's end", KeptEdgesTest::moveBeyond);
        check.test("Promise 36: NONE ahead of MISSING ahead of OUTSIDE", KeptEdgesTest::moveOrder);
    }

    /** LIST 0: 1 2 3 4 5; LIST 1: three of 0; LIST 2: no items; LIST 3 is missing. */
    private static BlastFace listed() {
        BlastFace x = new BlastFace();
        x.list(0, 5);
        for (int i = 0; i < 5; i++) x.put(0, i, i + 1);
        x.list(1, 3);
        x.list(2, 0);
        return x;
    }

    private static void moveToOther() {
        BlastFace x = listed();
        due("all that fit", x.move(0, 2, 1, 0, 3), 3);
        check.due("came", Scene.items(x, 1), "3 4 5");
        check.due("stay where they were", Scene.items(x, 0), "1 2 3 4 5");
        due("one, to the end", x.move(0, 0, 1, 2, 1), 1);
        check.due("came", Scene.items(x, 1), "3 4 1");
        due("back, to the first", x.move(1, 2, 0, 4, 1), 1);
        check.due("came", Scene.items(x, 0), "1 2 3 4 1");
        due("none", x.move(0, 0, 1, 0, 0), 0);
        due("none, from the end to the end", x.move(0, 5, 1, 3, 0), 0);
        due("none, from a LIST of none", x.move(2, 0, 2, 0, 0), 0);
        check.due("nothing is otherwise", Scene.items(x, 1), "3 4 1");
    }

    private static void moveInSame() {
        BlastFace x = listed();
        due("on", x.move(0, 0, 0, 1, 4), 4);
        check.due("on", Scene.items(x, 0), "1 1 2 3 4");
        x = listed();
        due("back", x.move(0, 1, 0, 0, 4), 4);
        check.due("back", Scene.items(x, 0), "2 3 4 5 5");
        x = listed();
        due("two on", x.move(0, 0, 0, 2, 3), 3);
        check.due("two on", Scene.items(x, 0), "1 2 1 2 3");
        x = listed();
        due("onto themselves", x.move(0, 0, 0, 0, 5), 5);
        check.due("onto themselves", Scene.items(x, 0), "1 2 3 4 5");
        due("just beside", x.move(0, 0, 0, 3, 2), 2);
        check.due("just beside", Scene.items(x, 0), "1 2 3 1 2");
    }

    private static void outside(int i, int j, int n) {
        BlastFace x = listed();
        due("move(0, " + i + ", 1, " + j + ", " + n + ")", x.move(0, i, 1, j, n), OUTSIDE);
        due("move(1, " + j + ", 0, " + i + ", " + n + ")", x.move(1, j, 0, i, n), OUTSIDE);
        check.due("nothing is otherwise", Scene.items(x, 0) + "/" + Scene.items(x, 1), "1 2 3 4 5/0 0 0");
    }

    private static void moveBelow() {
        for (int below : new int[] {-1, LOW, LOW + 1}) {
            outside(0, 0, below);
            outside(below, 0, 1);
            outside(0, below, 1);
            outside(below, 0, 0);
            outside(0, below, 0);
            outside(below, below, below);
        }
        outside(1, 1, -1);
    }

    private static void moveBeyond() {
        outside(5, 0, 1);
        outside(3, 0, 3);
        outside(0, 3, 1);
        outside(0, 1, 3);
        outside(0, 0, 4);
        outside(6, 0, 0);
        outside(0, 4, 0);
        outside(HIGH, 0, 1);
        outside(0, HIGH, 1);
        outside(1, 0, HIGH);
        outside(0, 1, HIGH);
        outside(HIGH, HIGH, 2);
        outside(HIGH, HIGH, HIGH);
        BlastFace x = listed();
        due("into a LIST of none", x.move(0, 0, 2, 0, 1), OUTSIDE);
        due("out of one", x.move(2, 0, 0, 0, 1), OUTSIDE);
        due("in itself", x.move(0, 0, 0, 1, 5), OUTSIDE);
    }

    private static void moveOrder() {
        BlastFace x = listed();
        for (int list : new int[] {-1, 4, LOW, HIGH}) {
            due("list " + list, x.move(list, 0, 0, 0, 0), NONE);
            due("other " + list, x.move(0, 0, list, 0, 0), NONE);
            due("list " + list + ", the other missing", x.move(list, 0, 3, 0, 0), NONE);
            due("other " + list + ", the one missing", x.move(3, 0, list, 0, 0), NONE);
            due("other " + list + ", outside", x.move(0, -1, list, 0, 0), NONE);
        }
        due("one missing", x.move(3, 0, 0, 0, 0), MISSING);
        due("the other missing", x.move(0, 0, 3, 0, 0), MISSING);
        due("one missing, outside", x.move(3, -1, 0, 9, 9), MISSING);
        due("the other missing, outside", x.move(0, 9, 3, -1, 9), MISSING);
    }

    private static void images() {
        check.test("6: AN IMAGE keeps HOLES, WIRES, rules, CLOCK", KeptEdgesTest::imageKeeps);
        check.test("6: LISTS, THE TAPE, how many TEXTS were done stay by undo()", KeptEdgesTest::imageLeaves);
        check.test("Promise 38: THE IMAGE is taken: how many HOLES", KeptEdgesTest::imageTaken);
        check.test("Promise 39: all that it keeps is as in THE IMAGE", KeptEdgesTest::undoAgain);
        check.test("Promise 39: STATE: there is none", KeptEdgesTest::undoNone);
    }

    private static void imageKeeps() {
        BlastFace x = three();
        x.becomes(0, Scene.BURDEN, 3);
        x.rule(0, 9);
        x.step();
        String paper = Check.paperOf(x);
        due("image()", x.image(), 2);
        due("CLOCK stays by image()", x.stepped(0), 1);
        x.step();
        for (int what = 3; what < 7; what++) x.becomes(0, what, 1);
        x.cut(0);
        x.wire(0, 1, 7);
        x.hole(4, 4, 5, 1, 1, 0);
        for (int what = 0; what < 3; what++) x.rule(what, 77);
        check.due("SHOTS in between", Scene.shots(x), "5/3/1 22/2/1");
        due("PLAN in between", x.planned(0), 1);
        due("PAPER in between", x.spell(), paper.length() + 17);
        due("undo()", x.undo(), 2);
        due("PLAN", x.planned(0), 2);
        check.due("HOLES and WIRES", Check.paperOf(x), paper);
        due("DEAD", x.sets(2), 0);
        due("MADE", x.of(0, 10), 123);
        due("rules", x.count(4) * 1000000 + x.count(5) * 1000 + x.count(6), 9100025);
        due("CLOCK", x.stepped(0), 1);
        due("the next SHOT", x.step(), 1);
        check.due("SHOTS", Scene.shots(x), "0/7/0 5/3/1 22/2/1");
        x.undo();
        x.becomes(0, Scene.DEAD, 1);
        x.image();
        x.becomes(0, Scene.DEAD, 0);
        x.undo();
        due("a DEAD one is DEAD again", x.sets(2), 1);
    }

    private static void imageLeaves() {
        BlastFace x = three();
        x.list(0, 1);
        x.list(1, 2);
        Scene.feed(x, "pace");
        x.image();
        x.put(0, 0, 5);
        x.list(1, -1);
        x.list(2, 3);
        Scene.feed(x, " 9");
        due("a TEXT is done", x.read(), 1);
        Scene.feed(x, "limit ");
        x.undo();
        due("what the TEXT did is undone", x.count(6), 25);
        due("a LIST stays", x.get(0, 0), 5);
        due("one that is missing", x.put(1, 0, 1), MISSING);
        due("one that came", x.get(2, 2), 0);
        due("THE TAPE has as many bytes", x.count(2), 6);
        due("TEXTS done", x.count(3), 1);
        x.feed('7');
        due("THE TAPE has the same bytes", x.read(), 1);
        due("done", x.count(5), 7);
    }

    private static void imageTaken() {
        BlastFace x = new BlastFace();
        due("of nothing", x.image(), 0);
        x.hole(0, 0, 0, 1, 1, 0);
        due("nothing again", x.undo(), 0);
        due("no HOLES", x.count(0), 0);
        BlastFace y = Scene.twenty(0, 1);
        for (int i = 0; i < 40; i++) y.wire(-1, 19, i);
        due("of 20", y.image(), 20);
        while (y.count(0) > 0) y.drop();
        due("all 20 again", y.undo(), 20);
        due("all WIRES", y.count(1), 40);
        due("the last WIRE", y.wired(39, 2), 39);
        due("the last HOLE", y.of(19, 1), 9);
        y.drop();
        due("a later one in its stead", y.image(), 19);
        y.hole(4, 4, 0, 1, 1, 0);
        due("the later one", y.undo(), 19);
        due("without WIRES", y.count(1), 0);
    }

    private static void undoAgain() {
        BlastFace x = three();
        x.image();
        due("nothing was otherwise", x.undo(), 2);
        for (int i = 0; i < 3; i++) {
            x.drop();
            x.rule(0, 1 + i);
            due("again", x.undo(), 2);
            due("WINDOW", x.count(4), 8);
            check.due("SHOTS", Scene.shots(x), "0/7/0 5/3/1 22/2/1");
        }
        x.becomes(0, Scene.CHARGE, 99);
        due("THE IMAGE is no part of what becomes", x.undo(), 2);
        due("CHARGE", x.of(0, 3), 7);
        for (int i = 0; i < 3; i++) x.step();
        x.undo();
        due("CLOCK as in THE IMAGE", x.stepped(0), 0);
    }

    private static void undoNone() {
        BlastFace x = new BlastFace();
        due("a new object", x.undo(), STATE);
        x.hole(0, 0, 0, 1, 1, 0);
        due("with a HOLE", x.undo(), STATE);
        due("it is there", x.count(0), 1);
        x.image();
        due("there is one", x.undo(), 1);
        due("another object has none", new BlastFace().undo(), STATE);
    }

    private static void counts() {
        check.test("Promise 37: how many: 0 .. 6", KeptEdgesTest::countAll);
        check.test("Promise 37: TEXTS done", KeptEdgesTest::countTexts);
        check.test("Promise 37: NONE", KeptEdgesTest::countNone);
        check.test("An object is used for at most 512 calls", KeptEdgesTest::lastCall);
        check.test("The face: NONE, BAD, STATE, FULL, NO", KeptEdgesTest::constants);
    }

    private static void countAll() {
        int[] first = {0, 0, 0, 0, 8, 100, 25};
        for (int what = 0; what < 7; what++) due("a new object: " + what, new BlastFace().count(what), first[what]);
        BlastFace x = Scene.forty();
        x.feed('x');
        int[] want = {2, 40, 1, 0, 8, 100, 25};
        for (int what = 0; what < 7; what++) due("what " + what, x.count(what), want[what]);
        BlastFace y = Scene.twenty(0, 1);
        Scene.feed(y, " ".repeat(81));
        due("20 HOLES", y.count(0), 20);
        due("80 bytes", y.count(2), 80);
    }

    private static void countTexts() {
        BlastFace x = three();
        int[] done = {1, 1, 1, 2, 2};
        String[] texts = {"pace 9;pace 8", "pace 4", "pace x", "dead 0", ""};
        for (int i = 0; i < 5; i++) {
            Check.text(x, texts[i]);
            due("behind \"" + texts[i] + "\"", x.count(3), done[i]);
        }
    }

    private static void countNone() {
        BlastFace x = three();
        for (int what : new int[] {-1, 7, LOW, HIGH}) due("count(" + what + ")", x.count(what), NONE);
    }

    private static void lastCall() {
        BlastFace x = new BlastFace();
        for (int i = 0; i < 511; i++) x.rule(0, 1 + i % 99);
        due("the 512th is answered as the first", x.count(4), 1 + 510 % 99);
        BlastFace y = Scene.lone(0, 7, 1, 0);
        for (int i = 0; i < 254; i++) {
            y.hole(0, 5, 0, 9, 1, 0);
            y.drop();
        }
        due("510 calls behind", y.worst(0), 7);
        due("and the last", y.count(0), 1);
    }

    private static void constants() {
        due("NONE", BlastFace.NONE, -1);
        due("BAD", BlastFace.BAD, -2);
        due("STATE", BlastFace.STATE, -3);
        due("FULL", BlastFace.FULL, -4);
        due("NO", BlastFace.NO, Long.MIN_VALUE);
    }
}
