/** Edges of rules, SHAKES, SAFE and RINGS: terms 3, promises 9 and 13 to 16. */
public final class ShakeEdgesTest {
    private static final int NONE = Scene.NONE, BAD = Scene.BAD;
    private static final int LOW = Scene.LOW, HIGH = Scene.HIGH;
    private static final int WORST = 0, WORST_AT = 1, OVER = 2, SHOTS = 3;
    private static final int RING = 3;
    private static Check check;

    public static void main(String[] args) {
        Check all = new Check();
        all(all);
        all.end("ShakeEdgesTest");
    }

    static void all(Check to) {
        check = to;
        rules();
        shakes();
        rings();
        answers();
    }

    private static void due(String call, long got, long want) {
        check.due(call, got, want);
    }

    private static void rules() {
        check.test("3: WINDOW (1 .. 99; 8 at first)", () -> rule(0, 1, 99, 8));
        check.test("3: LIMIT (1 .. 9999; 100 at first)", () -> rule(1, 1, 9999, 100));
        check.test("3: PACE (5 .. 99; 25 at first)", () -> rule(2, 5, 99, 25));
        check.test("Promise 9: what it was", ShakeEdgesTest::ruleWas);
        check.test("Promise 9: NONE ahead of BAD", ShakeEdgesTest::ruleNone);
    }

    private static void rule(int what, int least, int most, int first) {
        BlastFace x = new BlastFace();
        due("at first", x.count(4 + what), first);
        due("the greatest", x.rule(what, most), first);
        due("it is", x.count(4 + what), most);
        due("the least", x.rule(what, least), most);
        for (int v : new int[] {least - 1, most + 1, LOW, HIGH, least + 65536}) {
            due("refused: " + v, x.rule(what, v), BAD);
            due("it stays", x.count(4 + what), least);
        }
    }

    private static void ruleWas() {
        BlastFace x = new BlastFace();
        due("WINDOW", x.rule(0, 9), 8);
        due("LIMIT", x.rule(1, 101), 100);
        due("PACE", x.rule(2, 26), 25);
        due("none stands for another", x.count(4) * 1000000 + x.count(5) * 1000 + x.count(6), 9101026);
        due("again", x.rule(0, 9), 9);
        due("another object has its own", new BlastFace().count(4), 8);
    }

    private static void ruleNone() {
        BlastFace x = new BlastFace();
        for (int what : new int[] {-1, 3, LOW, HIGH}) {
            due("rule(" + what + ", 8)", x.rule(what, 8), NONE);
            due("rule(" + what + ", 0)", x.rule(what, 0), NONE);
        }
    }

    private static void shakes() {
        check.test("3: SHAKE at t: times t .. t plus WINDOW less 1", ShakeEdgesTest::windowEnds);
        check.test("3: SHAKE by the least and the greatest WINDOW", ShakeEdgesTest::windowBounds);
        check.test("3: SHAKE: LOADS of all SHOTS together", ShakeEdgesTest::allTogether);
        check.test("3: WORST: the greatest SHAKE at times of SHOTS", ShakeEdgesTest::worstAtShots);
        check.test("3: WORST: of several the earliest", ShakeEdgesTest::worstEarliest);
        check.test("3: OVER: SHAKE is above LIMIT", ShakeEdgesTest::overAbove);
        check.test("3: OVER: at how many different times of SHOTS", ShakeEdgesTest::overDifferent);
        check.test("3: SAFE: whose square is f times WORST, or more", ShakeEdgesTest::safeSquares);
        check.test("3: SAFE: a whole number from 0 on", ShakeEdgesTest::safeZero);
    }

    private static void windowEnds() {
        BlastFace x = Scene.lone(0, 7, 1, 100);
        due("100 is behind 92 .. 99", x.shake(92), 0);
        due("100 is the last of 93 .. 100", x.shake(93), 7);
        due("100 is the first of 100 .. 107", x.shake(100), 7);
        due("100 is ahead of 101", x.shake(101), 0);
        x.rule(0, 9);
        due("WINDOW 9: 92 .. 100", x.shake(92), 7);
        due("WINDOW 9: 91 .. 99", x.shake(91), 0);
    }

    private static void windowBounds() {
        BlastFace x = Scene.lone(0, 7, 1, 100);
        x.rule(0, 1);
        due("1: at 99", x.shake(99), 0);
        due("1: at 100", x.shake(100), 7);
        due("1: at 101", x.shake(101), 0);
        x.rule(0, 99);
        due("99: at 1", x.shake(1), 0);
        due("99: at 2", x.shake(2), 7);
        due("99: at 101", x.shake(101), 0);
    }

    private static void allTogether() {
        due("none", new BlastFace().shake(0), 0);
        BlastFace x = Scene.twenty(3, 99);
        for (int i = 0; i < 20; i++) x.wire(-1, i, 0);
        due("20 first ones", x.shake(0), 2000);
        due("20 second ones", x.shake(17), 1960);
        due("at 9, to 16", x.shake(9), 0);
        x.rule(0, 18);
        due("all 40", x.shake(0), 3960);
        x.rule(0, 17);
        due("17 are too few", x.shake(0), 2000);
    }

    private static void worstAtShots() {
        BlastFace x = Scene.started(Scene.at(0, 0, 0, 3, 1, 5), Scene.at(0, 1, 0, 4, 1, 12), Scene.at(0, 2, 0, 5, 1, 13));
        due("5 .. 12 shake 7, 12 .. 19 do 9", x.worst(WORST), 9);
        due("at 12", x.worst(WORST_AT), 12);
        x.rule(0, 9);
        due("5 .. 13 shake 12", x.worst(WORST), 12);
        due("at 5, no time of SHOTS is ahead", x.worst(WORST_AT), 5);
        BlastFace none = new BlastFace();
        due("no SHOTS", none.worst(WORST), 0);
        due("no time", none.worst(WORST_AT), NONE);
        due("the least there is", Scene.lone(0, 1, 1, 0).worst(WORST), 1);
        due("its time is 0", Scene.lone(0, 1, 1, 0).worst(WORST_AT), 0);
        due("or 999", Scene.lone(0, 1, 1, 999).worst(WORST_AT), 999);
    }

    private static void worstEarliest() {
        BlastFace x = Scene.started(Scene.at(0, 0, 0, 4, 1, 50), Scene.at(0, 1, 0, 4, 1, 20), Scene.at(0, 2, 0, 3, 1, 0));
        due("two of 4", x.worst(WORST), 4);
        due("the earlier", x.worst(WORST_AT), 20);
        x.becomes(2, Scene.CHARGE, 4);
        due("three of 4", x.worst(WORST_AT), 0);
        x.becomes(0, Scene.CHARGE, 5);
        due("the last is greater", x.worst(WORST_AT), 50);
    }

    private static void overAbove() {
        BlastFace x = Scene.lone(0, 99, 1, 0);
        due("99 by 100", x.worst(OVER), 0);
        x.rule(1, 99);
        due("at LIMIT", x.worst(OVER), 0);
        x.rule(1, 98);
        due("above", x.worst(OVER), 1);
        x.rule(1, 1);
        due("the least LIMIT", x.worst(OVER), 1);
        x.becomes(0, Scene.CHARGE, 1);
        due("at that", x.worst(OVER), 0);
        x.rule(1, 9999);
        due("the greatest LIMIT", x.worst(OVER), 0);
    }

    private static void overDifferent() {
        BlastFace x = Scene.started(Scene.at(0, 0, 0, 60, 1, 0), Scene.at(0, 1, 0, 60, 1, 0), Scene.at(0, 2, 0, 60, 1, 0));
        due("three at one time", x.worst(OVER), 1);
        x.becomes(2, Scene.IN, 7);
        due("at 0 alone: 7 .. 14 shake 60", x.worst(OVER), 1);
        x.becomes(0, Scene.IN, 7);
        due("at 0 and at 7", x.worst(OVER), 2);
        x.becomes(1, Scene.IN, 100);
        due("at 7 alone", x.worst(OVER), 1);
        x.becomes(2, Scene.IN, 200);
        due("nowhere", x.worst(OVER), 0);
    }

    private static int safe(int charge, int f) {
        return Scene.lone(0, charge, 1, 0).safe(f);
    }

    private static void safeSquares() {
        int[][] want = {{1, 1}, {2, 2}, {4, 2}, {5, 3}, {9, 3}, {10, 4}, {81, 9}, {82, 10}, {99, 10}};
        for (int[] w : want) due("1 times " + w[0], safe(w[0], 1), w[1]);
        due("1000 times 1", safe(1, 1000), 32);
        due("961 times 1", safe(1, 961), 31);
        due("962 times 1", safe(1, 962), 32);
        due("25 times 4", safe(4, 25), 10);
        due("26 times 4", safe(4, 26), 11);
        BlastFace x = Scene.twenty(3, 99);
        for (int i = 0; i < 20; i++) x.wire(-1, i, 0);
        x.rule(0, 99);
        due("1000 times 3960: 1989 is too little", x.safe(1000), 1990);
        due("1 times 3960", x.safe(1), 63);
    }

    private static void safeZero() {
        due("no SHOTS, by 1", new BlastFace().safe(1), 0);
        due("no SHOTS, by 1000", new BlastFace().safe(1000), 0);
        due("a DUMMY", Scene.lone(5, 99, 1, 0).safe(1000), 0);
        due("the least SHOT, by 1", safe(1, 1), 1);
    }

    private static void rings() {
        check.test("3: RING: LOADS over BURDEN, cut", ShakeEdgesTest::ringCut);
        check.test("3: RING: twice that, if it is BURIED", ShakeEdgesTest::ringBuried);
        check.test("3: RING: 9 at most", ShakeEdgesTest::ringAtMost);
        check.test("3: its ROCK lies in RINGS 0 .. RING", ShakeEdgesTest::rockInRings);
        check.test("3: ROCK over (RING plus 1), cut, what is left over in RING 0, too", ShakeEdgesTest::rockLeftOver);
    }

    private static int ringOf(int row, int charge, int burden) {
        return Scene.started(Scene.at(row, 4, 0, charge, burden, 0)).time(0, RING);
    }

    private static void ringCut() {
        due("1 over 20", ringOf(0, 1, 20), 0);
        due("19 over 20", ringOf(0, 19, 20), 0);
        due("20 over 20", ringOf(0, 20, 20), 1);
        due("39 over 20", ringOf(0, 39, 20), 1);
        due("40 over 20", ringOf(0, 40, 20), 2);
        due("1 over 1", ringOf(0, 1, 1), 1);
        BlastFace x = Scene.lone(3, 9, 9, 0);
        due("LOADS of a HEAVY: 18 over 9", x.time(0, RING), 2);
        x.becomes(0, Scene.BURDEN, 10);
        due("18 over 10", x.time(0, RING), 1);
    }

    private static void ringBuried() {
        due("twice 0", ringOf(1, 19, 20), 0);
        due("twice 1", ringOf(1, 20, 20), 2);
        due("cut ahead of twice", ringOf(1, 39, 20), 2);
        due("twice 4", ringOf(1, 24, 5), 8);
        BlastFace x = Scene.started(Scene.at(1, 4, 0, 8, 4, 8), Scene.at(0, 4, 0));
        due("with RELIEF", x.time(0, RING), 2);
        x.becomes(0, Scene.IN, 7);
        due("1 too early", x.time(0, RING), 4);
    }

    private static void ringAtMost() {
        due("8", ringOf(0, 8, 1), 8);
        due("9", ringOf(0, 9, 1), 9);
        due("10", ringOf(0, 10, 1), 9);
        due("99", ringOf(0, 99, 1), 9);
        due("BURIED: 8", ringOf(1, 4, 1), 8);
        due("BURIED: 10", ringOf(1, 5, 1), 9);
        due("BURIED: 198", ringOf(1, 99, 1), 9);
        due("198 twice", Scene.started(Scene.at(4, 9, 3, 99, 1, 0)).time(0, RING), 9);
    }

    private static String rings(int kind, int charge, int burden) {
        return Scene.rings(Scene.lone(kind, charge, burden, 0));
    }

    private static void rockInRings() {
        check.due("RING 0", rings(0, 9, 10), "40 0 0 0 0 0 0 0 0 0");
        check.due("RING 1", rings(0, 10, 10), "20 20 0 0 0 0 0 0 0 0");
        check.due("RING 9", rings(0, 90, 10), "4 4 4 4 4 4 4 4 4 4");
        check.due("RING 8", rings(0, 80, 9), "4 4 4 4 4 4 4 4 4 0");
        BlastFace x = Scene.started(Scene.at(0, 0, 0, 10, 10, 0), Scene.at(0, 5, 2, 20, 8, 0), Scene.at(0, 9, 5, 99, 9, 0));
        check.due("of two, and a DUMMY", Scene.rings(x), "34 33 13 0 0 0 0 0 0 0");
        x.becomes(0, Scene.DEAD, 1);
        check.due("of those that FIRE", Scene.rings(x), "14 13 13 0 0 0 0 0 0 0");
        x.cut(1);
        check.due("nobody", Scene.rings(x), "0 0 0 0 0 0 0 0 0 0");
    }

    private static void rockLeftOver() {
        check.due("20 in 3", rings(0, 10, 5), "8 6 6 0 0 0 0 0 0 0");
        check.due("20 in 9: 2 left over", rings(0, 44, 5), "4 2 2 2 2 2 2 2 2 0");
        check.due("4 in 10", rings(0, 9, 1), "4 0 0 0 0 0 0 0 0 0");
        check.due("8 in 9: all are left over", rings(0, 16, 2), "8 0 0 0 0 0 0 0 0 0");
        check.due("12 in 10", rings(0, 99, 3), "3 1 1 1 1 1 1 1 1 1");
    }

    private static void answers() {
        check.test("Promise 13: t (0 .. 99999), BAD", ShakeEdgesTest::shakeBounds);
        check.test("Promise 14: NONE: there are no SHOTS", ShakeEdgesTest::worstEmpty);
        check.test("Promise 14: how many SHOTS", ShakeEdgesTest::howManyShots);
        check.test("Promise 14: NONE: what", ShakeEdgesTest::worstNone);
        check.test("Promise 15: f (1 .. 1000), BAD", ShakeEdgesTest::safeBounds);
        check.test("Promise 16: RING k (0 .. 9)", ShakeEdgesTest::ringBounds);
        check.test("Promise 16: -1: over all RINGS ROCK times the RING's number, together", ShakeEdgesTest::ringSum);
        check.test("Promise 16: NO: k", ShakeEdgesTest::ringNo);
    }

    private static void shakeBounds() {
        BlastFace x = Scene.lone(0, 5, 1, 0);
        due("0", x.shake(0), 5);
        due("1", x.shake(1), 0);
        due("99999", x.shake(99999), 0);
        for (int t : new int[] {-1, -7, 100000, LOW, HIGH, HIGH - 1}) due("shake(" + t + ")", x.shake(t), BAD);
        due("a new object", new BlastFace().shake(-1), BAD);
    }

    private static void worstEmpty() {
        int[] want = {0, NONE, 0, 0};
        BlastFace x = Scene.lone(0, 5, 1, 0);
        x.becomes(0, Scene.DEAD, 1);
        for (int what = 0; what < 4; what++) {
            due("a new object: " + what, new BlastFace().worst(what), want[what]);
            due("a DEAD HOLE: " + what, x.worst(what), want[what]);
            due("a DUMMY: " + what, Scene.lone(5, 9, 1, 0).worst(what), want[what]);
        }
    }

    private static void howManyShots() {
        int[] want = {1, 1, 1, 1, 1, 0};
        int[] more = {1, 1, 2, 2, 1, 0};
        for (int k = 0; k < 6; k++) {
            due("KIND " + k + " of 1", Scene.lone(k, 1, 1, 0).worst(SHOTS), want[k]);
            due("KIND " + k + " of 2", Scene.lone(k, 2, 1, 0).worst(SHOTS), more[k]);
        }
        BlastFace x = Scene.twenty(2, 2);
        for (int i = 0; i < 20; i++) x.wire(-1, i, 0);
        due("the most there can be", x.worst(SHOTS), 40);
    }

    private static void worstNone() {
        BlastFace x = Scene.lone(0, 5, 1, 3);
        int[] want = {5, 3, 0, 1};
        for (int what = 0; what < 4; what++) due("what " + what, x.worst(what), want[what]);
        for (int what : new int[] {-1, 4, LOW, HIGH}) due("what " + what, x.worst(what), NONE);
    }

    private static void safeBounds() {
        BlastFace x = Scene.lone(0, 4, 1, 0);
        due("1", x.safe(1), 2);
        due("1000", x.safe(1000), 64);
        for (int f : new int[] {0, -1, 1001, LOW, HIGH}) due("safe(" + f + ")", x.safe(f), BAD);
        due("without SHOTS, too", new BlastFace().safe(0), BAD);
    }

    private static void ringBounds() {
        BlastFace x = Scene.lone(0, 90, 10, 0);
        due("0", x.ring(0), 4);
        due("9", x.ring(9), 4);
        for (int k = 0; k < 10; k++) due("a new object", new BlastFace().ring(k), 0);
    }

    private static void ringSum() {
        due("a new object", new BlastFace().ring(-1), 0);
        due("all in RING 0", Scene.lone(0, 1, 20, 0).ring(-1), 0);
        due("RING 1", Scene.lone(0, 10, 10, 0).ring(-1), 20);
        due("RING 9", Scene.lone(0, 90, 10, 0).ring(-1), 4 * 45);
        BlastFace x = new BlastFace();
        for (int i = 0; i < 20; i++) {
            x.hole(i / 10, i % 10, 3, 99, 20, 0);
            x.wire(-1, i, 0);
        }
        due("the most there can be", x.ring(-1), 20 * 10 * 45);
    }

    private static void ringNo() {
        BlastFace x = Scene.lone(0, 90, 10, 0);
        for (int k : new int[] {-2, 10, LOW, HIGH}) due("ring(" + k + ")", x.ring(k), Scene.NO);
        due("NO", BlastFace.NO, Long.MIN_VALUE);
    }
}
