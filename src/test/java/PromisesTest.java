/** For each of the promises 1 to 39: ordinary inputs, the edges that the document names, wrong inputs. */
public final class PromisesTest {
    private static final int NONE = -1, BAD = -2, STATE = -3, FULL = -4, MISSING = -11, OUTSIDE = -12, SIZE = -14;
    private static final long NO = Long.MIN_VALUE;
    private static final int LOW = Integer.MIN_VALUE, HIGH = Integer.MAX_VALUE;
    private static final Check check = new Check();

    public static void main(String[] args) {
        newObject();
        holes();
        holesFull();
        ofAll();
        becomes();
        taken();
        wires();
        wired();
        cut();
        rules();
        drop();
        times();
        reliefEdges();
        shots();
        shakes();
        worst();
        safe();
        rings();
        sets();
        loads();
        misfires();
        broken();
        critical();
        plans();
        planLimits();
        adopt();
        feed();
        readDone();
        readFaults();
        readUndoable();
        paper();
        steps();
        clockResets();
        lists();
        putsAndGets();
        fillAndJudge();
        moves();
        counts();
        images();
        check.end("PromisesTest");
    }

    private static void due(String call, long got, long want) {
        check.due(call, got, want);
    }

    /** Three HOLES in ROW 0, two in ROW 1: 0 starts all. */
    private static BlastFace five() {
        BlastFace x = new BlastFace();
        x.hole(0, 1, 0, 10, 2, 0);
        x.hole(0, 2, 0, 20, 2, 0);
        x.hole(0, 3, 2, 11, 2, 0);
        x.hole(1, 1, 0, 8, 3, 0);
        x.hole(1, 3, 1, 9, 3, 0);
        x.wire(-1, 0, 0);
        x.wire(0, 1, 10);
        x.wire(1, 2, 10);
        x.wire(1, 3, 6);
        x.wire(2, 4, 5);
        return x;
    }

    /** Promise 1. */
    private static void newObject() {
        BlastFace x = new BlastFace();
        int[] counts = {0, 0, 0, 0, 8, 100, 25};
        for (int i = 0; i < counts.length; i++) due("1 count(" + i + ")", x.count(i), counts[i]);
        for (int i = 0; i < 5; i++) due("1 sets(" + i + ")", x.sets(i), 0);
        due("1 of(0, 0)", x.of(0, 0), NONE);
        due("1 wired(0, 0)", x.wired(0, 0), NONE);
        due("1 spell()", x.spell(), 0);
        due("1 undo()", x.undo(), STATE);
        due("1 stepped(0)", x.stepped(0), 0);
        for (int i = 0; i < 4; i++) due("1 put()", x.put(i, 0, 1L), MISSING);
        due("1 get()", x.get(0, 0), NO);
    }

    /** Promise 2. */
    private static void holes() {
        BlastFace x = new BlastFace();
        due("2 least", x.hole(0, 0, 0, 1, 1, 0), 0);
        due("2 greatest", x.hole(4, 9, 5, 99, 20, 999), 1);
        int[][] wrong = {{-1, 1, 0, 1, 1, 0}, {5, 1, 0, 1, 1, 0}, {1, -1, 0, 1, 1, 0}, {1, 10, 0, 1, 1, 0}, {1, 1, -1, 1, 1, 0},
            {1, 1, 6, 1, 1, 0}, {1, 1, 0, 0, 1, 0}, {1, 1, 0, 100, 1, 0}, {1, 1, 0, 1, 0, 0}, {1, 1, 0, 1, 21, 0}, {1, 1, 0, 1, 1, -1},
            {1, 1, 0, 1, 1, 1000}, {LOW, LOW, LOW, LOW, LOW, LOW}, {HIGH, HIGH, HIGH, HIGH, HIGH, HIGH}};
        for (int[] w : wrong) due("2 wrong " + java.util.Arrays.toString(w), x.hole(w[0], w[1], w[2], w[3], w[4], w[5]), BAD);
        due("2 taken place", x.hole(4, 9, 0, 1, 1, 0), STATE);
        due("2 BAD ahead of STATE", x.hole(4, 9, 0, 0, 1, 0), BAD);
        due("2 none came", x.count(0), 2);
        due("2 as it was", x.of(1, 3), 99);
    }

    private static void holesFull() {
        BlastFace x = new BlastFace();
        for (int i = 0; i < 20; i++) due("2 hole " + i, x.hole(i / 10, i % 10, i % 6, 1 + i, 1, i), i);
        due("2 a 21st", x.hole(4, 0, 0, 1, 1, 0), FULL);
        due("2 STATE ahead of FULL", x.hole(1, 9, 0, 1, 1, 0), STATE);
        due("2 BAD ahead of FULL", x.hole(4, 0, 0, 1, 1, 1000), BAD);
        due("2 twenty", x.count(0), 20);
        due("2 a bit of the last", x.sets(3), (1 << 20) - 1);
        x.drop();
        due("2 a place is free again", x.hole(1, 9, 0, 1, 1, 0), 19);
    }

    private static void ofHole(int kind, int charge, int burden, int row, int loads, int rock, int needs, int made) {
        BlastFace x = new BlastFace();
        x.hole(row, 4, kind, charge, burden, 7);
        int[] want = {row, 4, kind, charge, burden, 7, 0, loads, rock, needs, made, 0};
        for (int i = 0; i < want.length; i++) due("3 kind " + kind + " of(0, " + i + ")", x.of(0, i), want[i]);
    }

    /** Promise 3. */
    private static void ofAll() {
        ofHole(0, 10, 5, 0, 10, 20, 10, 123);
        ofHole(0, 10, 5, 1, 10, 20, 10, 13);
        ofHole(1, 9, 5, 0, 5, 20, 9, 12345);
        ofHole(1, 1, 1, 2, 1, 4, 1, 1345);
        ofHole(2, 9, 5, 0, 9, 25, 10, 12345);
        ofHole(2, 1, 5, 4, 1, 25, 10, 1345);
        ofHole(3, 9, 5, 0, 18, 25, 15, 123456);
        ofHole(3, 1, 5, 3, 2, 25, 15, 13456);
        ofHole(4, 99, 5, 0, 9, 20, 15, 123457);
        ofHole(4, 16, 5, 1, 9, 20, 15, 13457);
        ofHole(4, 15, 5, 1, 8, 20, 15, 13457);
        ofHole(5, 99, 2, 0, 0, 0, 0, 1234578);
        ofHole(5, 99, 1, 0, 0, 0, 0, 12345789);
        ofHole(5, 99, 1, 1, 0, 0, 0, 1345789);
        ofHole(4, 99, 1, 1, 9, 4, 3, 13457);
        BlastFace x = new BlastFace();
        x.hole(1, 5, 0, 1, 1, 0);
        x.hole(0, 3, 0, 1, 1, 0);
        x.hole(0, 4, 0, 1, 1, 0);
        x.hole(0, 5, 5, 1, 1, 0);
        x.hole(0, 6, 1, 1, 1, 0);
        x.hole(0, 7, 0, 1, 1, 0);
        x.hole(2, 5, 0, 1, 1, 0);
        x.hole(1, 4, 0, 1, 1, 0);
        x.hole(3, 4, 5, 1, 1, 0);
        due("3 AHEAD at most 1 COLUMN off, no DUMMY", x.of(0, 11), 4 + 16);
        due("3 AHEAD one ROW less", x.of(6, 11), 1 + 128);
        due("3 AHEAD of a DUMMY", x.of(8, 11), 64);
        x.becomes(4, 6, 1);
        due("3 AHEAD, DEAD ones too", x.of(0, 11), 4 + 16);
        due("3 DEAD", x.of(4, 6), 1);
        due("3 no such what", x.of(0, 12), NONE);
        due("3 no such what", x.of(0, -1), NONE);
        due("3 no such HOLE", x.of(9, 0), NONE);
        due("3 no such HOLE", x.of(-1, 0), NONE);
        due("3 no such HOLE", x.of(HIGH, HIGH), NONE);
    }

    /** Promise 4. */
    private static void becomes() {
        BlastFace x = new BlastFace();
        x.hole(0, 0, 5, 10, 1, 30);
        due("4 CHARGE", x.becomes(0, 3, 99), 10);
        due("4 BURDEN", x.becomes(0, 4, 20), 1);
        due("4 IN", x.becomes(0, 5, 999), 30);
        due("4 DEAD", x.becomes(0, 6, 1), 0);
        due("4 DEAD", x.becomes(0, 6, 1), 1);
        due("4 alive", x.becomes(0, 6, 0), 1);
        due("4 CHARGE", x.of(0, 3), 99);
        due("4 BURDEN", x.of(0, 4), 20);
        due("4 IN", x.of(0, 5), 999);
        due("4 DEAD", x.of(0, 6), 0);
        due("4 MADE as it was", x.of(0, 10), 12345789);
        int[][] wrong = {{3, 0}, {3, 100}, {4, 0}, {4, 21}, {5, -1}, {5, 1000}, {6, 2}, {6, -1}, {0, 1}, {1, 1}, {2, 1}, {7, 1}, {-1, 1}, {LOW, 1}};
        for (int[] w : wrong) due("4 becomes(0, " + w[0] + ", " + w[1] + ")", x.becomes(0, w[0], w[1]), BAD);
        due("4 NONE ahead of BAD", x.becomes(1, 3, 0), NONE);
        due("4 no such HOLE", x.becomes(-1, 3, 1), NONE);
        due("4 none of these changed", x.of(0, 3) + x.of(0, 4) + x.of(0, 5) + x.of(0, 6), 99 + 20 + 999);
        due("4 least", x.becomes(0, 3, 1), 99);
        due("4 least", x.becomes(0, 4, 1), 20);
        due("4 least", x.becomes(0, 5, 0), 999);
    }

    /** Promise 5. */
    private static void taken() {
        BlastFace x = new BlastFace();
        for (int k = 0; k < 6; k++) x.hole(0, k, k, 20, 1, 0);
        String[] under = {"0", "01", "02", "023", "014", "0145"};
        int[] loads = {20, 11, 20, 40, 9, 0};
        for (int h = 0; h < 6; h++) {
            for (int k = 0; k < 6; k++) {
                boolean is = under[h].indexOf('0' + k) >= 0;
                due("5 taken(" + h + ", " + k + ")", x.taken(h, k), is ? loads[h] : STATE);
            }
        }
        due("5 BAD", x.taken(0, 6), BAD);
        due("5 BAD", x.taken(0, -1), BAD);
        due("5 NONE", x.taken(6, 0), NONE);
        due("5 NONE ahead of BAD", x.taken(-1, 6), NONE);
    }

    /** Promise 6. */
    private static void wires() {
        BlastFace x = new BlastFace();
        due("6 no HOLES", x.wire(-1, 0, 0), NONE);
        x.hole(0, 0, 0, 1, 1, 0);
        x.hole(0, 1, 0, 1, 1, 0);
        due("6 the first", x.wire(-1, 0, 0), 0);
        due("6 twice", x.wire(-1, 0, 500), 1);
        due("6 between", x.wire(1, 0, 5), 2);
        due("6 from", x.wire(-2, 0, 0), NONE);
        due("6 from", x.wire(2, 0, 0), NONE);
        due("6 to", x.wire(0, 2, 0), NONE);
        due("6 to the STARTER", x.wire(0, -1, 0), NONE);
        due("6 the same", x.wire(1, 1, 0), NONE);
        due("6 the same", x.wire(-1, -1, 0), NONE);
        due("6 NONE ahead of BAD", x.wire(1, 1, -1), NONE);
        due("6 BAD", x.wire(0, 1, -1), BAD);
        due("6 BAD", x.wire(0, 1, 501), BAD);
        due("6 none came", x.count(1), 3);
        for (int i = 3; i < 40; i++) due("6 wire " + i, x.wire(0, 1, i), i);
        due("6 a 41st", x.wire(0, 1, 1), FULL);
        due("6 BAD ahead of FULL", x.wire(0, 1, 501), BAD);
        due("6 NONE ahead of FULL", x.wire(0, 0, 1), NONE);
        due("6 forty", x.count(1), 40);
        due("6 the last", x.wired(39, 2), 39);
    }

    /** Promise 7. */
    private static void wired() {
        BlastFace x = five();
        x.becomes(4, 6, 1);
        x.wire(4, 3, 7);
        int[][] want = {{99, 0, 0, 0, 0}, {0, 1, 10, 10, 1}, {1, 2, 10, 20, 1}, {1, 3, 6, 16, 1}, {2, 4, 5, 25, 1}, {4, 3, 7, NONE, 0}};
        for (int w = 0; w < want.length; w++)
            for (int i = 0; i < 5; i++) due("7 wired(" + w + ", " + i + ")", x.wired(w, i), want[w][i]);
        due("7 what", x.wired(0, 5), NONE);
        due("7 what", x.wired(0, -1), NONE);
        due("7 wire", x.wired(6, 0), NONE);
        due("7 wire", x.wired(-1, 0), NONE);
        tornEdges();
    }

    /** One HOLE at (2, 4) whose WIRE ENDS at 50; another one at a place that FIRES at a time. */
    private static void torn(int row, int column, int kind, int in, int want) {
        BlastFace x = new BlastFace();
        x.hole(2, 4, 0, 1, 1, 0);
        x.hole(row, column, kind, 1, 1, in);
        x.wire(-1, 0, 50);
        x.wire(-1, 1, 0);
        due("7 torn by (" + row + ", " + column + ") at " + in, x.wired(0, 4), want);
        due("17 the same as a bit", x.sets(4) & 1, want);
        x.becomes(1, 6, 1);
        due("7 a DEAD one tears nothing", x.wired(0, 4), 0);
    }

    private static void tornEdges() {
        torn(1, 3, 0, 49, 1);
        torn(3, 5, 0, 0, 1);
        torn(2, 5, 0, 49, 1);
        torn(1, 4, 0, 50, 0);
        torn(2, 6, 0, 0, 0);
        torn(0, 4, 0, 0, 0);
        torn(4, 4, 0, 0, 0);
        torn(2, 2, 0, 0, 0);
        torn(2, 3, 5, 0, 0);
        BlastFace x = new BlastFace();
        x.hole(0, 0, 0, 1, 1, 0);
        x.wire(-1, 0, 0);
        x.wire(-1, 0, 100);
        due("7 the HOLE it leads to does not tear it", x.wired(1, 4), 0);
        due("7 it ENDS all the same", x.wired(1, 3), 100);
        x.hole(0, 1, 2, 9, 1, 100);
        x.wire(-1, 1, 0);
        due("7 TIME is that of the first SHOT", x.wired(1, 4), 0);
        x.becomes(1, 5, 99);
        due("7 before", x.wired(1, 4), 1);
    }

    /** Promise 8. */
    private static void cut() {
        BlastFace x = five();
        due("8 wire", x.cut(5), NONE);
        due("8 wire", x.cut(-1), NONE);
        due("8 the second", x.cut(1), 4);
        due("8 those behind it move up", x.wired(1, 0) * 100 + x.wired(1, 1), 102);
        due("8 the one ahead stays", x.wired(0, 0), 99);
        due("8 the last moves too", x.wired(3, 1), 4);
        due("8 no such any more", x.wired(4, 0), NONE);
        due("8 no SIGNAL any more", x.sets(3), 2 + 4 + 8 + 16);
        due("8 the last", x.cut(3), 3);
        due("8 the first", x.cut(0), 2);
        due("8 again", x.cut(0), 1);
        due("8 again", x.cut(0), 0);
        due("8 none", x.cut(0), NONE);
        BlastFace y = new BlastFace();
        y.hole(0, 0, 0, 1, 1, 0);
        for (int i = 0; i < 40; i++) y.wire(-1, 0, i);
        due("8 the last of all", y.cut(39), 39);
        y.wire(-1, 0, 100);
        due("8 the first of all", y.cut(0), 39);
        due("8 the last of all moves up", y.wired(38, 2), 100);
        due("8 in between", y.cut(20), 38);
        due("8 ahead of it", y.wired(19, 2), 20);
        due("8 behind it", y.wired(20, 2), 22);
    }

    /** Promise 9. */
    private static void rules() {
        BlastFace x = new BlastFace();
        int[][] bounds = {{1, 99, 8}, {1, 9999, 100}, {5, 99, 25}};
        for (int r = 0; r < 3; r++) {
            due("9 too small", x.rule(r, bounds[r][0] - 1), BAD);
            due("9 too great", x.rule(r, bounds[r][1] + 1), BAD);
            due("9 far too small", x.rule(r, LOW), BAD);
            due("9 least", x.rule(r, bounds[r][0]), bounds[r][2]);
            due("9 greatest", x.rule(r, bounds[r][1]), bounds[r][0]);
            due("9 what it is", x.count(4 + r), bounds[r][1]);
        }
        due("9 what", x.rule(3, 8), NONE);
        due("9 what ahead of BAD", x.rule(-1, 0), NONE);
    }

    /** Promise 10. */
    private static void drop() {
        BlastFace x = five();
        x.wire(4, 0, 1);
        x.wire(-1, 3, 2);
        x.wire(4, 1, 1);
        due("10 drop()", x.drop(), 4);
        due("10 WIRES to and from it are gone", x.count(1), 5);
        due("10 those behind have other numbers", x.wired(4, 1), 3);
        due("10 the HOLE is gone", x.of(4, 0), NONE);
        due("10 drop()", x.drop(), 3);
        due("10 WIRES", x.count(1), 3);
        due("10 the place is free", x.hole(1, 1, 5, 1, 1, 0), 3);
        due("10 it is not DEAD", x.of(3, 6), 0);
        for (int i = 3; i >= 0; i--) due("10 drop()", x.drop(), i);
        due("10 no WIRES", x.count(1), 0);
        due("10 none", x.drop(), STATE);
        BlastFace z = new BlastFace();
        z.hole(1, 1, 0, 1, 1, 0);
        z.hole(0, 1, 0, 1, 1, 0);
        due("3 AHEAD", z.of(0, 11), 2);
        z.drop();
        due("10 it is AHEAD no more", z.of(0, 11), 0);
        z.hole(0, 5, 0, 1, 1, 0);
        due("10 nor is who comes elsewhere", z.of(0, 11), 0);
        z.image();
        z.drop();
        z.hole(0, 2, 0, 1, 1, 0);
        due("3 AHEAD again", z.of(0, 11), 2);
        z.undo();
        due("39 AHEAD as it was", z.of(0, 11), 0);
        BlastFace y = new BlastFace();
        y.hole(0, 0, 0, 1, 1, 0);
        y.becomes(0, 6, 1);
        y.drop();
        y.hole(0, 0, 0, 1, 1, 0);
        due("10 a new one is not DEAD", y.of(0, 6), 0);
    }

    /** Promise 11. */
    private static void times() {
        BlastFace x = five();
        int[][] want = {{0, 0, 1, 5}, {10, 10, 1, 9}, {20, 20, 1, 5}, {16, 16, 1, 2}, {25, 25, 1, 1}};
        for (int h = 0; h < 5; h++)
            for (int i = 0; i < 4; i++) due("11 time(" + h + ", " + i + ")", x.time(h, i), want[h][i]);
        x.becomes(1, 5, 1);
        due("11 IN is no part of a SIGNAL", x.time(3, 0), 16);
        due("11 5 behind is no RELIEF for 6", x.time(3, 2), 0);
        due("11 RING of a BURIED one", x.time(3, 3), 4);
        due("11 what", x.time(0, 4), NONE);
        due("11 what", x.time(0, -1), NONE);
        due("11 hole", x.time(5, 0), NONE);
        due("11 hole", x.time(-1, 1), NONE);
        due("11 hole", x.time(-1, 0), NONE);
        due("11 hole", x.time(20, 0), NONE);
        due("11 hole", x.time(HIGH, 0), NONE);
        x.becomes(1, 6, 1);
        due("11 a DEAD HOLE has a SIGNAL", x.time(1, 0), 10);
        for (int i = 1; i < 4; i++) due("11 it does not FIRE", x.time(1, i), NONE);
        due("11 it brings none on", x.time(2, 0), NONE);
        due("11 nor farther", x.time(4, 0), NONE);
        x.wire(-1, 4, 500);
        x.wire(4, 2, 500);
        due("11 another way", x.time(2, 0), 1000);
        x.wire(0, 2, 400);
        due("11 the least", x.time(2, 0), 400);
        due("11 WIRES in a circle", x.time(4, 0), 405);
        BlastFace y = new BlastFace();
        y.hole(0, 0, 5, 1, 1, 3);
        y.hole(0, 1, 0, 1, 1, 3);
        y.wire(-1, 0, 4);
        y.wire(0, 1, 5);
        due("11 a DUMMY has a SIGNAL", y.time(0, 0), 4);
        due("11 does not FIRE", y.time(0, 1), NONE);
        due("11 and brings it on", y.time(1, 1), 12);
        longestWay();
    }

    private static void longestWay() {
        BlastFace x = new BlastFace();
        for (int i = 0; i < 20; i++) x.hole(i / 10, i % 10, 0, 1, 1, 999);
        // against the order of the numbers: the SIGNAL goes on by one HOLE a round
        for (int i = 0; i < 19; i++) x.wire(i + 1, i, 500);
        x.wire(-1, 19, 500);
        due("11 by 20 WIRES", x.time(0, 0), 20 * 500);
        due("13 so late", x.shake(20 * 500 + 999), 1);
    }

    /** RELIEF of a KIND of BURDEN 5 behind one that FIRES at 100, by its own IN. */
    private static void relief(int kind, int in, int want) {
        BlastFace x = new BlastFace();
        x.hole(1, 0, kind, 1, 5, in);
        x.hole(0, 1, 0, 1, 1, 100);
        x.wire(-1, 0, 0);
        x.wire(-1, 1, 0);
        due("11 RELIEF of kind " + kind + " at " + in, x.time(0, 2), want);
        due("17 BURIED", x.sets(1), want == 0 ? 1 : 0);
        x.becomes(1, 6, 1);
        due("11 a DEAD one ahead gives none", x.time(0, 2), 0);
    }

    private static void reliefEdges() {
        int[] needs = {10, 9, 10, 15, 15};
        for (int k = 0; k < 5; k++) {
            relief(k, 100 + needs[k], 1);
            relief(k, 99 + needs[k], 0);
        }
        BlastFace first = new BlastFace();
        first.hole(0, 0, 0, 1, 1, 0);
        first.hole(1, 0, 0, 1, 1, 2);
        first.wire(-1, 0, 0);
        first.wire(-1, 1, 0);
        due("11 just as much behind time 0", first.time(1, 2), 1);
        BlastFace x = new BlastFace();
        x.hole(1, 4, 0, 9, 1, 50);
        x.wire(-1, 0, 0);
        due("11 none AHEAD: BURIED", x.time(0, 2), 0);
        x.hole(0, 4, 5, 1, 1, 0);
        x.wire(-1, 1, 0);
        due("11 a DUMMY gives no RELIEF", x.time(0, 2), 0);
        x.hole(0, 3, 0, 1, 1, 0);
        x.wire(-1, 2, 0);
        due("11 and hinders none", x.time(0, 2), 1);
        x.hole(0, 5, 0, 1, 1, 49);
        due("11 one AHEAD without a SIGNAL", x.time(0, 2), 0);
        x.wire(-1, 3, 0);
        due("11 all, each", x.time(0, 2), 0);
        x.becomes(3, 5, 48);
        due("11 all, each", x.time(0, 2), 1);
    }

    /** Promise 12. */
    private static void shots() {
        BlastFace x = five();
        x.becomes(0, 5, 20);
        int[][] want = {{10, 20, 1}, {16, 8, 3}, {20, 10, 0}, {20, 6, 2}, {25, 5, 4}, {37, 5, 2}};
        for (int i = 0; i < want.length; i++)
            for (int k = 0; k < 3; k++) due("12 shot(" + i + ", " + k + ")", x.shot(i, k), want[i][k]);
        due("12 beyond", x.shot(6, 0), NONE);
        due("12 below", x.shot(-1, 0), NONE);
        due("12 what", x.shot(0, 3), NONE);
        due("12 what", x.shot(0, -1), NONE);
        due("12 neither", x.shot(HIGH, LOW), NONE);
        BlastFace y = new BlastFace();
        y.hole(0, 0, 3, 7, 1, 0);
        y.hole(0, 1, 0, 50, 1, 17);
        y.hole(0, 2, 3, 1, 1, 17);
        for (int i = 0; i < 3; i++) y.wire(-1, i, 0);
        int[][] heavy = {{0, 8, 0}, {17, 6, 0}, {17, 50, 1}, {17, 2, 2}};
        for (int i = 0; i < heavy.length; i++)
            for (int k = 0; k < 3; k++) due("12 of one time by HOLES", y.shot(i, k), heavy[i][k]);
        due("12 none, if the rest is 0", y.shot(4, 0), NONE);
    }

    /** Promise 13. */
    private static void shakes() {
        BlastFace x = five();
        due("13 at 0", x.shake(0), 10);
        due("13 its last time counts", x.shake(3), 20);
        due("13 one before", x.shake(2), 0);
        due("13 at its first", x.shake(10), 20 + 8);
        due("13 16 .. 23", x.shake(16), 8 + 6);
        due("13 behind all", x.shake(38), 0);
        x.rule(0, 99);
        due("13 a wide WINDOW", x.shake(0), 10 + 20 + 11 + 8 + 5);
        x.rule(0, 1);
        due("13 a narrow one", x.shake(20), 6);
        due("13 last t", x.shake(99999), 0);
        due("13 t", x.shake(100000), BAD);
        due("13 t", x.shake(-1), BAD);
        due("13 t", x.shake(HIGH), BAD);
    }

    /** Promise 14. */
    private static void worst() {
        BlastFace x = five();
        x.rule(1, 13);
        int[] want = {28, 10, 2, 6};
        for (int i = 0; i < 4; i++) due("14 worst(" + i + ")", x.worst(i), want[i]);
        x.rule(1, 14);
        due("14 above, not at LIMIT", x.worst(2), 1);
        due("14 what", x.worst(4), NONE);
        due("14 what", x.worst(-1), NONE);
        BlastFace y = new BlastFace();
        int[] none = {0, NONE, 0, 0};
        for (int i = 0; i < 4; i++) due("14 no SHOTS", y.worst(i), none[i]);
        for (int i = 0; i < 4; i++) {
            y.hole(0, i, 0, 50, 1, i / 2 * 100);
            y.wire(-1, i, 5);
        }
        due("14 WORST", y.worst(0), 100);
        due("14 of several the earliest", y.worst(1), 5);
        y.rule(1, 99);
        due("14 different times", y.worst(2), 2);
    }

    /** Promise 15. */
    private static void safe() {
        BlastFace x = new BlastFace();
        due("15 no SHOTS", x.safe(1000), 0);
        x.hole(0, 0, 0, 16, 1, 0);
        x.wire(-1, 0, 0);
        due("15 a square", x.safe(1), 4);
        due("15 a square", x.safe(4), 8);
        due("15 above one", x.safe(2), 6);
        x.becomes(0, 3, 17);
        due("15 one more", x.safe(1), 5);
        x.becomes(0, 3, 1);
        due("15 least", x.safe(1), 1);
        due("15 greatest", x.safe(1000), 32);
        due("15 f", x.safe(0), BAD);
        due("15 f", x.safe(1001), BAD);
        due("15 f", x.safe(LOW), BAD);
        BlastFace y = new BlastFace();
        for (int i = 0; i < 20; i++) {
            y.hole(i / 10, i % 10, 3, 99, 1, 0);
            y.wire(-1, i, 0);
        }
        y.rule(0, 99);
        due("15 the most there is", y.worst(0), 3960);
        due("15 and by 1000", y.safe(1000), 1990);
    }

    /** Promise 16. */
    private static void rings() {
        BlastFace x = new BlastFace();
        due("16 nobody", x.ring(0), 0);
        due("16 nobody", x.ring(-1), 0);
        x.hole(0, 0, 2, 9, 3, 0);
        x.wire(-1, 0, 0);
        // ROCK 15 in RINGS 0 .. 3: 3 each, 3 left over
        long[] want = {6, 3, 3, 3, 0, 0, 0, 0, 0, 0};
        for (int k = 0; k < 10; k++) due("16 ring(" + k + ")", x.ring(k), want[k]);
        due("16 times the RING's number", x.ring(-1), 3 + 6 + 9);
        x.hole(1, 5, 0, 23, 4, 0);
        x.wire(-1, 1, 0);
        // BURIED: RING 10, 9 at most; ROCK 16: 1 each, 6 left over
        due("16 both", x.ring(0), 6 + 7);
        due("16 both", x.ring(3), 3 + 1);
        due("16 the last", x.ring(9), 1);
        due("16 all", x.ring(-1), 18 + 45);
        due("11 RING 9 at most", x.time(1, 3), 9);
        x.becomes(1, 6, 1);
        due("16 only those that FIRE", x.ring(9), 0);
        BlastFace y = new BlastFace();
        y.hole(0, 0, 0, 3, 1, 0);
        y.hole(0, 1, 0, 3, 4, 0);
        y.wire(-1, 0, 0);
        y.wire(-1, 1, 0);
        due("11 RING by a BURDEN of 1", y.time(0, 3), 3);
        due("11 RING 0", y.time(1, 3), 0);
        due("16 all of it in RING 0", y.ring(0), 1 + 16);
        due("16 RING 1", y.ring(1), 1);
        due("16 k", x.ring(10), NO);
        due("16 k", x.ring(-2), NO);
        due("16 k", x.ring(LOW), NO);
    }

    /** Promise 17. */
    private static void sets() {
        BlastFace x = five();
        x.hole(4, 4, 5, 1, 1, 0);
        x.hole(3, 3, 0, 1, 1, 0);
        x.wire(0, 6, 1);
        x.becomes(2, 6, 1);
        int[] want = {1 + 2 + 8 + 64, 64, 4, 16 + 32, 2 + 4 + 8};
        for (int i = 0; i < 5; i++) due("17 sets(" + i + ")", x.sets(i), want[i]);
        x.becomes(0, 6, 1);
        due("17 two that are DEAD", x.sets(2), 1 + 4);
        due("17 what", x.sets(5), NONE);
        due("17 what", x.sets(-1), NONE);
        BlastFace y = new BlastFace();
        y.hole(0, 0, 0, 1, 1, 0);
        y.hole(0, 1, 0, 1, 1, 0);
        y.wire(-1, 0, 0);
        for (int i = 1; i < 40; i++) y.wire(-1, 1, 5);
        due("17 the first 31 WIRES", y.sets(4), HIGH - 1);
        due("7 those behind are TORN, too", y.wired(39, 4), 1);
    }

    /** Promise 18. */
    private static void loads() {
        BlastFace x = five();
        due("18 none", x.loads(0, -1, -1, -1, -1), 0);
        due("18 one", x.loads(1, 0, -1, 99, HIGH), 10);
        due("18 two", x.loads(2, 0, 1, 99, HIGH), 30);
        due("18 three", x.loads(3, 0, 1, 2, 5), 41);
        due("18 four", x.loads(4, 0, 1, 2, 4), 46);
        due("18 twice", x.loads(4, 1, 1, 2, 1), 71);
        due("18 n", x.loads(5, 0, 0, 0, 0), BAD);
        due("18 n ahead of NONE", x.loads(-1, 9, 9, 9, 9), BAD);
        for (int i = 0; i < 4; i++)
            due("18 one is none", x.loads(4, i == 0 ? 5 : 0, i == 1 ? -1 : 0, i == 2 ? 5 : 0, i == 3 ? LOW : 0), NONE);
    }

    /** Promise 19. */
    private static void misfires() {
        BlastFace x = five();
        x.rule(1, 13);
        due("19 LOST", x.misfire(0, 0), 2 + 4 + 8 + 16);
        due("19 BARED", x.misfire(0, 1), 0);
        due("19 WORST then", x.misfire(0, 2), 0);
        due("19 OVER then", x.misfire(0, 3), 0);
        due("19 LOST", x.misfire(2, 0), 16);
        due("19 BARED", x.misfire(3, 1), 0);
        due("19 WORST then", x.misfire(1, 2), 10);
        due("19 OVER then", x.misfire(3, 3), 1);
        x.wire(-1, 4, 30);
        x.wire(-1, 3, 16);
        due("19 another way", x.misfire(2, 0), 0);
        due("19 BARED", x.misfire(2, 1), 16);
        due("19 LOST", x.misfire(1, 0), 4);
        due("19 BARED", x.misfire(1, 1), 8 + 16);
        x.becomes(1, 6, 1);
        for (int i = 0; i < 2; i++) due("19 of a DEAD one", x.misfire(1, i), 0);
        due("19 of a DEAD one", x.misfire(1, 2), x.worst(0));
        due("19 nothing is otherwise", x.sets(2), 2);
        due("19 what", x.misfire(0, 4), NONE);
        due("19 what", x.misfire(0, -1), NONE);
        due("19 hole", x.misfire(5, 0), NONE);
        due("19 hole", x.misfire(-1, 0), NONE);
    }

    /** Promise 20. */
    private static void broken() {
        BlastFace x = five();
        x.rule(1, 13);
        due("20 LOST", x.broken(0, 0), 31);
        due("20 WORST then", x.broken(0, 2), 0);
        due("20 LOST", x.broken(1, 0), 2 + 4 + 8 + 16);
        due("20 LOST", x.broken(3, 0), 8);
        due("20 WORST then", x.broken(3, 2), 20);
        due("20 OVER then", x.broken(3, 3), 1);
        x.wire(-1, 1, 12);
        due("20 another way, later", x.broken(1, 0), 0);
        due("20 nobody is BARED by it", x.broken(1, 1), 0);
        x.wire(-1, 3, 16);
        due("20 BARED by a later one", x.broken(1, 1), 8);
        due("20 what", x.broken(0, 4), NONE);
        due("20 what", x.broken(0, -1), NONE);
        due("20 wire", x.broken(7, 0), NONE);
        due("20 wire", x.broken(-1, 0), NONE);
        due("20 it is there all the same", x.count(1), 7);
        due("20 and nothing is otherwise", x.sets(0), 31);
    }

    /** Promise 21. */
    private static void critical() {
        BlastFace x = new BlastFace();
        due("21 no HOLES", x.critical(0), NONE);
        due("21 no WIRES", x.critical(1), NONE);
        x.hole(0, 0, 0, 1, 1, 0);
        x.hole(0, 5, 0, 1, 1, 0);
        due("21 nobody is lost: the least", x.critical(0), 0);
        x.wire(1, 0, 0);
        due("21 no harm: the least", x.critical(1), 0);
        x.wire(-1, 1, 0);
        due("21 LOST", x.critical(0), 1);
        due("21 LOST", x.critical(1), 1);
        x.hole(1, 0, 0, 1, 1, 99);
        x.hole(1, 1, 0, 1, 1, 99);
        x.wire(-1, 2, 0);
        x.wire(-1, 3, 0);
        due("21 1 LOST and 2 BARED", x.critical(0), 1);
        x.wire(-1, 0, 0);
        due("21 2 BARED", x.critical(0), 0);
        due("21 one each: the least", x.critical(1), 1);
        due("21 what", x.critical(2), NONE);
        due("21 what", x.critical(-1), NONE);
    }

    /** Promises 22 and 23. */
    private static void plans() {
        BlastFace x = new BlastFace();
        due("23 nobody", x.planned(0), 0);
        due("23 nobody", x.planned(1), NONE);
        due("23 nobody", x.planned(2), 0);
        x.hole(1, 4, 0, 10, 13, 700);
        x.hole(0, 4, 0, 10, 5, 700);
        x.hole(0, 3, 2, 60, 5, 700);
        x.hole(2, 0, 0, 10, 5, 700);
        x.hole(2, 4, 3, 10, 5, 700);
        x.hole(0, 8, 5, 10, 5, 700);
        for (int i = 0; i < 6; i++) x.wire(-1, i, i);
        x.rule(1, 35);
        // 2 first: 30 at 2 and at 19; 1 with it would shake 40 at 1 and, from 19 on, at 26: 51;
        // 0 needs 26 more than that: 100, as 75 is too early; 4 needs 15 more: 129
        int[] want = {100, 50, 0, STATE, 125, STATE};
        for (int h = 0; h < 6; h++) due("22 plan(" + h + ")", x.plan(h), want[h]);
        due("23 how many", x.planned(0), 4);
        due("23 greatest TIME", x.planned(1), 129);
        due("23 WORST", x.planned(2), 30);
        due("22 IN stays", x.of(0, 5), 700);
        due("23 what", x.planned(3), NONE);
        due("23 what", x.planned(-1), NONE);
        due("22 hole", x.plan(6), NONE);
        due("22 hole", x.plan(-1), NONE);
        x.becomes(1, 6, 1);
        due("22 a DEAD one", x.plan(1), STATE);
        due("22 one AHEAD isn't planned", x.plan(0), STATE);
        due("22 nor is who is behind that", x.plan(4), STATE);
        due("23 how many", x.planned(0), 1);
        x.rule(2, 99);
        x.becomes(1, 6, 0);
        due("22 by another PACE", x.plan(1), 99);
    }

    private static void planLimits() {
        BlastFace x = new BlastFace();
        for (int i = 0; i < 4; i++) {
            x.hole(0, 2 * i, 0, 50, 1, 0);
            x.wire(-1, i, 0);
        }
        due("22 at LIMIT, not above", x.plan(1), 0);
        due("22 the next", x.plan(2), 25);
        x.rule(1, 49);
        due("23 LIMIT too low for anybody", x.planned(0), 0);
        x.rule(1, 99);
        x.rule(2, 5);
        int[] fives = {0, 10, 20, 30};
        for (int i = 0; i < 4; i++) due("22 a WINDOW of 8 by fives", x.plan(i), fives[i]);
        x.becomes(0, 3, 40);
        due("22 50 more fit", x.plan(1), 0);
        due("23 WORST", x.planned(2), 90);
        BlastFace late = new BlastFace();
        late.hole(0, 0, 0, 5, 1, 0);
        late.hole(1, 0, 0, 5, 2, 0);
        late.wire(-1, 0, 500);
        late.wire(-1, 1, 0);
        late.rule(2, 9);
        due("22 the first of 9s that is 504", late.plan(1), 504);
        BlastFace deck = new BlastFace();
        deck.hole(0, 0, 2, 80, 1, 0);
        deck.hole(0, 5, 0, 70, 1, 0);
        deck.wire(-1, 0, 0);
        deck.wire(-1, 1, 0);
        deck.rule(2, 5);
        // 40 at 0 and 17, 70 more may stand in no WINDOW with either: 8 off them, 5 by 5
        due("22 between and behind two SHOTS", deck.plan(1), 25);
        deck.rule(0, 7);
        due("22 a smaller WINDOW lets it between", deck.plan(1), 10);
        planEnds();
        deckPlans();
        deck.becomes(0, 3, 99);
        deck.becomes(1, 3, 51);
        due("22 50 and 51 are too much", deck.plan(1), 10);
        deck.becomes(1, 3, 50);
        due("22 50 and 50 are not", deck.plan(1), 0);
    }

    /** IN of a HOLE that needs relief TIMES from n on, its SIGNAL being 0. */
    private static int planFrom(int n, int pace) {
        BlastFace x = new BlastFace();
        x.hole(4, 9, 0, 1, 1, 0);
        x.hole(3, 9, 0, 1, 1, 0);
        x.hole(2, 9, 0, 1, 1, 0);
        x.hole(1, 9, 0, 1, 1, 0);
        x.hole(0, 9, 0, 1, 1, 0);
        int late = n - 8;
        // two WIRES over a DUMMY, as one DELAY is 500 at most
        x.hole(0, 0, 5, 1, 1, 0);
        x.wire(-1, 5, late / 2);
        x.wire(5, 4, late - late / 2);
        // each 2 behind the one ahead, by SIGNALS alone
        x.wire(4, 3, 2);
        x.wire(3, 2, 2);
        x.wire(2, 1, 2);
        x.wire(-1, 0, 0);
        x.rule(2, pace);
        int in = x.plan(0);
        due("23 all but it", x.planned(0), in == STATE ? 4 : 5);
        due("23 greatest TIME", x.planned(1), in == STATE ? n - 2 : in);
        return in;
    }

    private static void planEnds() {
        due("22 999 is a multiple of 9", planFrom(999, 9), 999);
        due("22 999 is a multiple of 27", planFrom(991, 27), 999);
        due("22 1000 is too much", planFrom(1000, 9), STATE);
        due("22 1000 is too much, by 5", planFrom(996, 5), STATE);
        due("22 995, by 5", planFrom(995, 5), 995);
        due("22 975, by 25", planFrom(975, 25), 975);
        due("22 1000 is too much, by 25", planFrom(976, 25), STATE);
    }

    /** A DECK is planned behind a HOLE: both of its SHOTS count. */
    private static int deckPlan(int in, int charge, int deck, int window) {
        BlastFace x = new BlastFace();
        x.hole(0, 0, 0, charge, 1, 0);
        x.hole(0, 1, 2, deck, 1, 0);
        x.hole(0, 9, 5, 1, 1, 0);
        x.wire(-1, 0, in);
        x.wire(-1, 1, 0);
        x.rule(0, window);
        x.rule(2, 5);
        return x.plan(1);
    }

    private static void deckPlans() {
        due("22 its second with one at its time", deckPlan(17, 80, 50, 1), 5);
        due("22 its second, before one", deckPlan(18, 80, 50, 2), 5);
        due("22 its second, before one, just outside", deckPlan(19, 80, 50, 2), 0);
        due("22 its second, behind one", deckPlan(15, 80, 50, 3), 5);
        due("22 its second, behind one, just outside", deckPlan(15, 80, 50, 2), 0);
        due("22 its first, behind one", deckPlan(0, 80, 50, 5), 5);
        due("22 its first, behind one", deckPlan(0, 80, 50, 6), 10);
        due("22 its two in one WINDOW", deckPlan(500, 1, 99, 18), 0);
        due("22 its two and one", deckPlan(18, 30, 80, 19), 20);
        due("22 at LIMIT, its second", deckPlan(17, 75, 50, 1), 0);
        due("22 at LIMIT, its second of 1", deckPlan(17, 99, 3, 1), 0);
        due("22 above LIMIT, its second of 2", deckPlan(17, 99, 5, 1), 5);
        BlastFace y = new BlastFace();
        y.hole(0, 0, 0, 99, 1, 0);
        y.hole(0, 1, 2, 3, 1, 0);
        y.wire(-1, 0, 18);
        y.wire(-1, 1, 0);
        y.rule(0, 2);
        y.rule(1, 99);
        due("22 its second of 1 begins the WINDOW that shakes too much", y.plan(1), 25);
        BlastFace x = new BlastFace();
        x.hole(0, 0, 2, 50, 1, 0);
        x.wire(-1, 0, 0);
        x.rule(1, 49);
        x.rule(0, 17);
        due("22 alone, each below LIMIT", x.plan(0), 0);
        x.rule(0, 18);
        due("22 alone, both above", x.plan(0), STATE);
        x.rule(0, 1);
        x.rule(1, 25);
        due("22 alone, at LIMIT", x.plan(0), 0);
        x.rule(1, 24);
        due("22 alone, above", x.plan(0), STATE);
    }

    /** Promise 24. */
    private static void adopt() {
        BlastFace x = new BlastFace();
        due("24 nobody", x.adopt(), 0);
        x.hole(0, 0, 0, 60, 1, 7);
        x.hole(0, 1, 0, 60, 1, 7);
        x.hole(1, 5, 0, 60, 1, 7);
        for (int i = 0; i < 3; i++) x.wire(-1, i, i);
        due("24 two of three", x.adopt(), 2);
        due("24 IN", x.of(0, 5), 0);
        due("24 IN", x.of(1, 5), 25);
        due("24 who isn't planned", x.of(2, 5), 7);
        due("24 TIME", x.time(1, 1), 26);
        due("24 again", x.adopt(), 2);
    }

    /** Promise 25. */
    private static void feed() {
        BlastFace x = new BlastFace();
        due("25 least", x.feed(0), 1);
        due("25 greatest", x.feed(127), 2);
        due("25 letter", x.feed(128), BAD);
        due("25 letter", x.feed(-1), BAD);
        due("25 bytes", x.count(2), 2);
        for (int i = 3; i <= 80; i++) due("25 feed", x.feed(32), i);
        due("25 an 81st", x.feed(32), FULL);
        due("25 BAD ahead of FULL", x.feed(128), BAD);
        due("25 eighty", x.count(2), 80);
        due("26 the first byte", x.read(), -100);
        due("25 empty again", x.feed(32), 1);
    }

    private static void reads(String text, int want) {
        BlastFace x = new BlastFace();
        x.hole(0, 0, 0, 1, 1, 0);
        x.hole(0, 9, 0, 1, 1, 0);
        String before = Check.paperOf(x);
        due("26 \"" + text + "\"", Check.text(x, text), want);
        due("26 THE TAPE is empty", x.count(2), 0);
        due("26 TEXTS done by \"" + text + "\"", x.count(3), want < 0 ? 0 : 1);
        if (want < 0) {
            check.holds("26 nothing is done by \"" + text + "\"", before.equals(Check.paperOf(x)));
            due("26 nor DEAD", x.sets(2), 0);
            due("26 nor a rule", x.count(4) + x.count(5) + x.count(6), 133);
        }
    }

    /** Promise 26. */
    private static void readDone() {
        reads("window 9", 1);
        reads("window9", 1);
        reads("   window   9   ", 1);
        reads("window 9;limit 1;pace 5;dead 0", 4);
        reads("window 9 ; limit 0001 ;pace 99", 3);
        reads("wire start 0 0;wire 0 1 500;wire1 0 7", 3);
        reads("hole 1 1hole 1 1 1;hole 1 2slim1 1 1", 2);
        reads("hole1 1hole1 1 1;wire0 2 3;dead2", 3);
        reads("pace5;pace5;pace5;pace5;pace5;pace5;pace5;pace5;pace5;pace5;pace5;pace5;pace5", 13);
        BlastFace x = new BlastFace();
        due("26 all", Check.text(x, "hole 4 9 dummy 99 20 999;hole 0 0 buffer 1 1 0;wire start 1 500;dead 0"), 4);
        int[] want = {4, 9, 5, 99, 20, 999, 1};
        for (int i = 0; i < 7; i++) due("26 of(0, " + i + ")", x.of(0, i), want[i]);
        due("26 KIND", x.of(1, 2), 4);
        due("26 MADE", x.of(0, 10), 134578);
        due("26 from", x.wired(0, 0), 99);
        due("26 to", x.wired(0, 1), 1);
        due("26 DELAY", x.wired(0, 2), 500);
        due("26 rules", Check.text(x, "window 99;limit 9999;pace 99"), 3);
        due("26 rules", x.count(4) * 1000000 + x.count(5) * 100 + x.count(6), 99999999);
        due("26 TEXTS", x.count(3), 2);
        String[] kinds = {"hole", "slim", "deck", "heavy", "buffer", "dummy"};
        for (int k = 0; k < 6; k++) {
            due("26 WORD", Check.text(x, "hole 2 " + k + " " + kinds[k] + " 3 3 3"), 1);
            due("26 its KIND", x.of(k + 2, 2), k);
        }
    }

    private static void readFaults() {
        reads("", -100);
        reads("     ", -105);
        reads(";", -100);
        reads("window", -106);
        reads("window ", -107);
        reads("window 9;", -109);
        reads("window 9;;pace 5", -109);
        reads("window 9; ", -110);
        reads("window 9 9", -109);
        reads("window 9 pace 9", -109);
        reads("window 9pace 9", -108);
        reads("window 99999", -107);
        reads("window 00009", -107);
        reads("window x", -107);
        reads("window -1", -107);
        reads("windows 9", -100);
        reads("windowz 9", -100);
        reads("awindow 9", -100);
        reads("xindow 9", -100);
        reads(" ".repeat(80), -180);
        reads(" ".repeat(72) + "pace 99;", -180);
        reads(" ".repeat(73) + "pace  9", 1);
        reads(" ".repeat(73) + "windows", -173);
        reads(" ".repeat(74) + "window", -180);
        reads("windo 9", -100);
        reads("Window 9", -100);
        reads("9", -100);
        reads("start", -100);
        reads("slim 1", -100);
        reads("pace 9;pace\t9", -111);
        reads("pace 9;{ace 9", -107);
        reads("pace 9:pace 9", -106);
        reads("pace 9/", -106);
        reads("pace 9`", -106);
        reads("wire start start 9", -111);
        reads("wire begin 0 9", -105);
        reads("wire 0 1", -108);
        reads("wire 0 1 2 3", -111);
        reads("hole 1 1 1 1 1 1", -109);
        reads("hole 1 1 wire 1 1 1", -109);
        reads("hole 1 1 deckx 1 1 1", -109);
        reads("hole 1 1 deck 1 1 deck", -118);
        reads("hole 11deck 1 1 1", -107);
        reads("dead start", -105);
        reads("dead 7;window x", -114);
        reads("pace5;pace5;pace5;pace5;pace5;pace5;pace5;pace5;pace5;pace5;pace5;pace5;pace5;pa", -178);
        reads("pace5;pace5;pace5;pace5;pace5;pace5;pace5;pace5;pace5;pace5;pace5;pace5;pace5; ", -179);
        reads("pace5;pace5;pace5;pace5;pace5;pace5;pace5;pace5;pace5;pace5;pace5;pace5;pace5 5", -178);
    }

    private static void readUndoable() {
        reads("window 0", -300);
        reads("window 100", -300);
        reads("  limit 0", -302);
        reads("pace 5; pace 4", -308);
        reads("pace 100", -300);
        reads("hole 0 0 slim 1 1 1", -300);
        reads("hole 5 0 slim 1 1 1", -300);
        reads("hole 1 10 slim 1 1 1", -300);
        reads("hole 1 1 slim 0 1 1", -300);
        reads("hole 1 1 slim 100 1 1", -300);
        reads("hole 1 1 slim 1 21 1", -300);
        reads("hole 1 1 slim 1 1 1000", -300);
        reads("hole 1 1 slim 1 1 1;hole 1 1 slim 1 1 1", -320);
        reads("wire 0 2 1", -300);
        reads("wire 2 0 1", -300);
        reads("wire 0 0 1", -300);
        reads("wire 0 1 501", -300);
        reads("wire start 2 1;hole 1 1 slim 1 1 1", -300);
        reads("dead 2", -300);
        reads("dead 1;dead 0;dead 1", -314);
        reads("dead 1;window 0;dead 1", -307);
        BlastFace x = new BlastFace();
        for (int i = 0; i < 19; i++) x.hole(i / 10, i % 10, 0, 1, 1, 0);
        due("26 no room", Check.text(x, "hole 2 0 hole 1 1 1;hole 2 1 hole 1 1 1"), -320);
        for (int i = 0; i < 39; i++) x.wire(-1, 0, 0);
        due("26 no room", Check.text(x, "wire 0 1 1;wire 0 1 1"), -311);
        due("26 nothing is done", x.count(0) * 100 + x.count(1), 1939);
        due("26 room for one", Check.text(x, "hole 2 0 hole 1 1 1;wire 0 19 1"), 2);
    }

    /** Promises 27 and 28. */
    private static void paper() {
        BlastFace x = new BlastFace();
        due("28 nothing", x.paper(0), NONE);
        x.rule(0, 5);
        due("27 rules are not told", x.spell(), 0);
        x.hole(4, 9, 4, 99, 20, 999);
        x.hole(0, 0, 0, 1, 1, 0);
        for (int k = 1; k < 6; k++) x.hole(1, k, k, 10, 9, 100);
        x.wire(-1, 0, 500);
        x.wire(0, 1, 7);
        x.becomes(1, 6, 1);
        x.becomes(1, 5, 101);
        String want = "hole 4 9 buffer 99 20 999;hole 0 0 hole 1 1 101;hole 1 1 slim 10 9 100;hole 1 2 deck 10 9 100"
            + ";hole 1 3 heavy 10 9 100;hole 1 4 buffer 10 9 100;hole 1 5 dummy 10 9 100;wire start 0 500;wire 0 1 7";
        due("27 spell()", x.spell(), want.length());
        for (int i = 0; i < want.length(); i++) due("28 paper(" + i + ")", x.paper(i), want.charAt(i));
        due("28 beyond", x.paper(want.length()), NONE);
        due("28 below", x.paper(-1), NONE);
        x.cut(0);
        due("27 a WIRE less", x.spell(), want.length() - 16 - 1);
        longestPaper();
    }

    private static void longestPaper() {
        BlastFace x = new BlastFace();
        for (int i = 0; i < 20; i++) x.hole(i / 10, i % 10, 4, 99, 20, 999);
        for (int i = 0; i < 40; i++) x.wire(-1, 19, 500);
        due("27 the longest", x.spell(), 20 * 25 + 40 * 17 + 59);
        due("28 its last byte", x.paper(x.spell() - 1), '0');
        due("28 its last but three", x.paper(x.spell() - 4), ' ');
    }

    /** Promises 29 and 30. */
    private static void steps() {
        BlastFace x = five();
        due("30 none yet", x.stepped(1), 0);
        due("30 none yet", x.stepped(2), NONE);
        due("30 none yet", x.stepped(3), 0);
        int[] holes = {0, 1, 3, 2, 4, 2};
        int[] loads = {10, 30, 38, 44, 49, 54};
        int[] times = {0, 10, 16, 20, 25, 37};
        int[] all = {1, 3, 11, 11, 27, 31};
        for (int i = 0; i < 6; i++) {
            due("29 step()", x.step(), holes[i]);
            due("30 CLOCK", x.stepped(0), i + 1);
            due("30 LOADS", x.stepped(1), loads[i]);
            due("30 time", x.stepped(2), times[i]);
            due("30 HOLES", x.stepped(3), all[i]);
        }
        due("29 none any more", x.step(), STATE);
        due("30 CLOCK", x.stepped(0), 6);
        due("30 what", x.stepped(4), NONE);
        due("30 what", x.stepped(-1), NONE);
        due("29 no SHOTS", new BlastFace().step(), STATE);
    }

    private static BlastFace steppedTwice() {
        BlastFace x = five();
        x.step();
        x.step();
        return x;
    }

    /** CLOCK is 0 again by what is done, not by what is refused or asked. */
    private static void clockResets() {
        BlastFace x = steppedTwice();
        x.hole(0, 1, 0, 1, 1, 0);
        x.becomes(0, 6, 2);
        x.wire(0, 0, 1);
        x.cut(9);
        x.rule(0, 0);
        Check.text(x, "window 0");
        Check.text(x, "window");
        x.feed(32);
        x.plan(0);
        x.misfire(0, 0);
        x.critical(0);
        x.image();
        x.list(0, 5);
        x.fill(0, 0);
        due("6 CLOCK stays", x.stepped(0), 2);
        x.hole(4, 4, 0, 1, 1, 0);
        due("6 hole()", x.stepped(0), 0);
        x = steppedTwice();
        x.becomes(0, 6, 0);
        due("6 becomes(), though nothing be otherwise", x.stepped(0), 0);
        x = steppedTwice();
        x.wire(-1, 0, 0);
        due("6 wire()", x.stepped(0), 0);
        x = steppedTwice();
        x.cut(4);
        due("6 cut()", x.stepped(0), 0);
        x = steppedTwice();
        x.rule(0, 8);
        due("6 rule()", x.stepped(0), 0);
        x = steppedTwice();
        x.drop();
        due("6 drop()", x.stepped(0), 0);
        x = steppedTwice();
        x.adopt();
        due("6 adopt()", x.stepped(0), 0);
        x = steppedTwice();
        Check.text(x, "window 8");
        due("6 read()", x.stepped(0), 0);
        due("6 from the first again", x.step(), 0);
        x = new BlastFace();
        due("6 drop() refused", x.drop(), STATE);
    }

    /** Promise 31. */
    private static void lists() {
        BlastFace x = new BlastFace();
        due("31 list", x.list(4, 1), NONE);
        due("31 list", x.list(-1, 1), NONE);
        due("31 NONE first", x.list(-1, 41), NONE);
        due("31 n", x.list(0, 41), BAD);
        due("31 n", x.list(0, HIGH), BAD);
        due("31 n", x.list(0, -2), SIZE);
        due("31 n", x.list(0, LOW), SIZE);
        due("31 still missing", x.put(0, 0, 1), MISSING);
        due("31 forty", x.list(0, 40), 1);
        due("31 all 0", x.get(0, 39), 0);
        due("31 no more", x.get(0, 40), NO);
        x.put(0, 1, 7);
        due("31 anew", x.list(0, 2), 1);
        due("31 all 0 again", x.get(0, 1), 0);
        due("31 smaller", x.get(0, 2), NO);
        due("31 none", x.list(0, 0), 1);
        due("31 not missing", x.put(0, 0, 1), OUTSIDE);
        due("31 missing already", x.list(1, -1), 1);
        due("31 missing", x.list(0, -1), 1);
        due("31 missing", x.put(0, 0, 1), MISSING);
    }

    /** Promises 32 and 33. */
    private static void putsAndGets() {
        BlastFace x = new BlastFace();
        for (int i = 0; i < 4; i++) {
            due("32 missing", x.put(i, 0, 1), MISSING);
            due("33 missing", x.get(i, 0), NO);
            x.list(i, 3);
            due("32 put", x.put(i, 2, Long.MAX_VALUE - i), 1);
        }
        for (int i = 0; i < 4; i++) due("33 get", x.get(i, 2), Long.MAX_VALUE - i);
        due("32 place", x.put(0, 3, 1), OUTSIDE);
        due("32 place", x.put(0, -1, 1), OUTSIDE);
        due("32 list", x.put(4, 0, 1), NONE);
        due("32 list", x.put(-1, 0, 1), NONE);
        due("33 list", x.get(4, 0), NO);
        due("33 list", x.get(-1, 0), NO);
        due("33 place", x.get(0, 3), NO);
        due("33 place", x.get(0, -1), NO);
        due("33 place", x.get(0, LOW), NO);
    }

    private static void laid(BlastFace x, int list, int what, long... want) {
        for (int i = 0; i < want.length; i++) due("34 fill(" + list + ", " + what + ") item " + i, x.get(list, i), want[i]);
    }

    /** Promises 34 and 35. */
    private static void fillAndJudge() {
        BlastFace x = five();
        due("34 missing", x.fill(0, 0), MISSING);
        due("35 missing", x.judge(0, 0), MISSING);
        for (int what : new int[] {-1, 3, HIGH}) {
            due("34 what ahead of MISSING", x.fill(0, what), NONE);
            due("35 what ahead of MISSING", x.judge(0, what), NONE);
        }
        for (int list : new int[] {-1, 4, LOW}) {
            due("34 list", x.fill(list, 0), NONE);
            due("35 list", x.judge(list, 0), NONE);
        }
        x.becomes(1, 6, 1);
        x.wire(-1, 3, 3);
        x.wire(0, 4, 40);
        x.list(0, 4);
        x.put(0, 3, 77);
        due("34 TIMES", x.fill(0, 0), 3);
        laid(x, 0, 0, 0, 3, 40, 77);
        due("35 beyond all", x.judge(0, 0), 3);
        due("34 LOADS", x.fill(0, 1), 3);
        laid(x, 0, 1, 10, 8, 5, 77);
        due("35 not so", x.judge(0, 0), 0);
        x.list(1, 2);
        due("34 as many as both have", x.fill(1, 0), 2);
        laid(x, 1, 0, 0, 3);
        due("35 all are so", x.judge(1, 0), NONE);
        x.put(1, 1, 3 + (1L << 32));
        due("35 the whole long", x.judge(1, 0), 1);
        x.list(2, 0);
        due("34 no items", x.fill(2, 2), 0);
        due("35 no items", x.judge(2, 2), NONE);
        x.becomes(1, 6, 0);
        x.list(3, 6);
        due("34 times of SHOTS", x.fill(3, 2), 6);
        laid(x, 3, 2, 0, 3, 10, 20, 25, 37);
        due("35 all", x.judge(3, 2), NONE);
        due("35 another", x.judge(3, 0), 1);
        x.drop();
        due("35 beyond all, though it was so", x.judge(3, 2), 4);
        x.put(3, 4, 37);
        x.put(3, 5, 37);
        due("35 beyond all", x.judge(3, 2), 5);
    }

    /** Promise 36. */
    private static void moves() {
        BlastFace x = new BlastFace();
        x.list(0, 5);
        x.list(1, 3);
        for (int i = 0; i < 5; i++) x.put(0, i, i + 1);
        due("36 to another", x.move(0, 2, 1, 0, 3), 3);
        laid(x, 1, 36, 3, 4, 5);
        laid(x, 0, 36, 1, 2, 3, 4, 5);
        due("36 on, the same", x.move(0, 0, 0, 1, 4), 4);
        laid(x, 0, 36, 1, 1, 2, 3, 4);
        due("36 back, the same", x.move(0, 1, 0, 0, 4), 4);
        laid(x, 0, 36, 1, 2, 3, 4, 4);
        due("36 none, at the ends", x.move(0, 5, 1, 3, 0), 0);
        int[][] outside = {{0, 0, -1}, {-1, 0, 1}, {0, -1, 1}, {5, 0, 1}, {0, 3, 1}, {3, 0, 3}, {0, 1, 3}, {6, 0, 0}, {0, 4, 0},
            {HIGH, 0, 1}, {1, 0, HIGH}, {0, HIGH, 2}, {HIGH, HIGH, HIGH}, {LOW, 0, 0}, {0, 0, LOW}};
        for (int[] o : outside) due("36 " + java.util.Arrays.toString(o), x.move(0, o[0], 1, o[1], o[2]), OUTSIDE);
        due("36 lists", x.move(4, 0, 0, 0, 1), NONE);
        due("36 lists", x.move(0, 0, -1, 0, 1), NONE);
        due("36 NONE ahead of MISSING", x.move(2, 0, 4, 0, 1), NONE);
        due("36 missing", x.move(2, 0, 0, 0, 1), MISSING);
        due("36 missing ahead of OUTSIDE", x.move(0, -1, 3, 0, 1), MISSING);
        laid(x, 1, 36, 3, 4, 5);
    }

    /** Promise 37. */
    private static void counts() {
        BlastFace x = five();
        x.feed(32);
        x.rule(0, 9);
        x.rule(1, 10);
        x.rule(2, 11);
        int[] want = {5, 5, 1, 0, 9, 10, 11};
        for (int i = 0; i < 7; i++) due("37 count(" + i + ")", x.count(i), want[i]);
        Check.text(x, "pace 8");
        due("37 TEXTS", x.count(3), 1);
        Check.text(x, "pace 4");
        due("37 TEXTS done", x.count(3), 1);
        due("37 what", x.count(7), NONE);
        due("37 what", x.count(-1), NONE);
    }

    /** Promises 38 and 39. */
    private static void images() {
        BlastFace x = five();
        due("39 none", x.undo(), STATE);
        x.becomes(2, 6, 1);
        x.becomes(0, 4, 1);
        x.step();
        x.list(0, 2);
        String paper = Check.paperOf(x);
        due("38 image()", x.image(), 5);
        x.step();
        x.put(0, 0, 5);
        x.hole(4, 4, 5, 1, 1, 1);
        x.becomes(0, 3, 99);
        x.becomes(2, 6, 0);
        x.cut(0);
        x.rule(0, 1);
        x.rule(1, 1);
        x.rule(2, 5);
        Check.text(x, "hole 4 5 hole 1 1 1");
        x.feed(32);
        due("39 who FIRES now", x.sets(0), 0);
        due("39 PLAN now", x.planned(0), 0);
        due("39 PAPER now", x.spell() > paper.length() ? 1 : 0, 1);
        due("39 undo()", x.undo(), 5);
        due("39 PLAN", x.planned(0), 3);
        check.holds("39 HOLES, WIRES", paper.equals(Check.paperOf(x)));
        due("39 DEAD", x.sets(2), 4);
        due("39 who FIRES", x.sets(0), 1 + 2 + 8);
        due("39 MADE", x.of(0, 10), 123);
        due("39 rules", x.count(4) * 1000000 + x.count(5) * 1000 + x.count(6), 8100025);
        due("39 CLOCK", x.stepped(0), 1);
        due("39 LISTS stay", x.get(0, 0), 5);
        due("39 THE TAPE stays", x.count(2), 1);
        due("39 TEXTS stay", x.count(3), 1);
        for (int i = 0; i < 5; i++) x.drop();
        due("39 again", x.undo(), 5);
        due("39 as before", x.wired(0, 1), 0);
        due("29 goes on", x.step(), 1);
        x.drop();
        due("38 a later one", x.image(), 4);
        x.drop();
        due("39 the later one", x.undo(), 4);
        BlastFace empty = new BlastFace();
        due("38 of nothing", empty.image(), 0);
        empty.hole(0, 0, 0, 1, 1, 1);
        due("39 nothing again", empty.undo(), 0);
        due("39 the place is free", empty.hole(0, 0, 0, 1, 1, 1), 0);
    }
}
