/** Objects that tests begin with, and calls that many of them make. */
final class Scene {
    static final int NONE = -1, BAD = -2, STATE = -3, FULL = -4, MISSING = -11, OUTSIDE = -12, SIZE = -14;
    static final long NO = Long.MIN_VALUE;
    static final int LOW = Integer.MIN_VALUE, HIGH = Integer.MAX_VALUE;
    static final int HOLE = 0, SLIM = 1, DECK = 2, HEAVY = 3, BUFFER = 4, DUMMY = 5;
    static final int CHARGE = 3, BURDEN = 4, IN = 5, DEAD = 6;
    static final int WINDOW = 0, LIMIT = 1, PACE = 2;

    private Scene() {}

    /** HOLES, each ROW, COLUMN, KIND, CHARGE, BURDEN, IN. */
    static BlastFace holes(int[]... holes) {
        BlastFace x = new BlastFace();
        for (int[] h : holes) x.hole(h[0], h[1], h[2], h[3], h[4], h[5]);
        return x;
    }

    /** HOLES, each with a WIRE of its own number from the STARTER, its DELAY 0. */
    static BlastFace started(int[]... holes) {
        BlastFace x = holes(holes);
        for (int h = 0; h < holes.length; h++) x.wire(-1, h, 0);
        return x;
    }

    static int[] at(int row, int column, int kind, int charge, int burden, int in) {
        return new int[] {row, column, kind, charge, burden, in};
    }

    /** A HOLE of CHARGE 1 and BURDEN 1. */
    static int[] at(int row, int column, int in) {
        return at(row, column, HOLE, 1, 1, in);
    }

    /** One HOLE of ROW 0 that FIRES at its IN. */
    static BlastFace lone(int kind, int charge, int burden, int in) {
        return started(at(0, 4, kind, charge, burden, in));
    }

    /** As many HOLES as there can be, 10 a ROW; 0 is at (0, 0), 19 at (1, 9). */
    static BlastFace twenty(int kind, int charge) {
        BlastFace x = new BlastFace();
        for (int i = 0; i < 20; i++) x.hole(i / 10, i % 10, kind, charge, 1, 0);
        return x;
    }

    /** As many WIRES as there can be, all from the STARTER to HOLE 0, each with its number as DELAY. */
    static BlastFace forty() {
        BlastFace x = holes(at(0, 0, 0), at(0, 1, 0));
        for (int i = 0; i < 40; i++) x.wire(-1, 0, i);
        return x;
    }

    /** All that can be otherwise is: a DEAD one, rules, CLOCK, THE TAPE, a TEXT done, LISTS, an IMAGE of something else. */
    static BlastFace quarry() {
        BlastFace x = holes(at(0, 2, 0, 10, 5, 25), at(0, 3, 2, 9, 4, 50), at(1, 2, 3, 7, 3, 100),
            at(1, 3, 4, 60, 2, 75), at(2, 2, 5, 5, 1, 0));
        int[][] wires = {{-1, 0, 0}, {0, 1, 17}, {1, 2, 17}, {0, 3, 42}, {3, 4, 5}, {-1, 2, 300}};
        for (int[] w : wires) x.wire(w[0], w[1], w[2]);
        x.rule(1, 13);
        x.step();
        x.image();
        x.drop();
        x.becomes(3, DEAD, 1);
        x.becomes(0, BURDEN, 6);
        x.rule(0, 20);
        feed(x, "pace 7");
        x.read();
        x.step();
        x.step();
        feed(x, "window ");
        x.list(0, 3);
        for (int i = 0; i < 3; i++) x.put(0, i, i + 1);
        x.list(1, 0);
        x.list(3, 40);
        x.fill(3, 2);
        return x;
    }

    static int hole(BlastFace x, int[] h) {
        return x.hole(h[0], h[1], h[2], h[3], h[4], h[5]);
    }

    /** All SHOTS as "time/LOAD/HOLE". */
    static String shots(BlastFace x) {
        StringBuilder all = new StringBuilder();
        int n = x.worst(3);
        for (int i = 0; i < n; i++) {
            if (i > 0) all.append(' ');
            all.append(x.shot(i, 0)).append('/').append(x.shot(i, 1)).append('/').append(x.shot(i, 2));
        }
        return all.toString();
    }

    /** All RINGS, 0 .. 9. */
    static String rings(BlastFace x) {
        StringBuilder all = new StringBuilder();
        for (int k = 0; k < 10; k++) all.append(k > 0 ? " " : "").append(x.ring(k));
        return all.toString();
    }

    /** The items of a LIST. */
    static String items(BlastFace x, int list) {
        StringBuilder all = new StringBuilder();
        for (int i = 0; x.get(list, i) != NO; i++) all.append(i > 0 ? " " : "").append(x.get(list, i));
        return all.toString();
    }

    static void feed(BlastFace x, String text) {
        for (int i = 0; i < text.length(); i++) x.feed(text.charAt(i));
    }
}
