import java.util.Arrays;

/**
 * A blast face planner: holes, wires, who fires when, what shakes and what is thrown.
 * The words in capitals are those of the document's terms.
 */
public final class BlastFace {
    public static final int NONE = -1, BAD = -2, STATE = -3, FULL = -4;
    public static final long NO = Long.MIN_VALUE;

    private static final int MISSING = -11, OUTSIDE = -12, SIZE = -14;
    private static final int MOST_HOLES = 20, MOST_WIRES = 40, MOST_SHOTS = 2 * MOST_HOLES;
    private static final int STARTER = -1, STARTER_TOLD = 99;
    private static final int MOST_DELAY = 500, MOST_IN = 999, MOST_RING = 9, MOST_FACTOR = 1000;
    private static final int MOST_T = 99999, DECK_GAP = 17;
    private static final int SYNTAX_FAULT = -100, DOING_FAULT = -300;
    /** As many WIRES as have a bit in an int that is not its sign. */
    private static final int WIRE_BITS = 31;

    /** What is kept of a HOLE, by the numbers that of() gives it; MADE and AHEAD stand behind these. */
    private static final int ROW = 0, COLUMN = 1, KIND = 2, CHARGE = 3, BURDEN = 4, IN = 5, DEAD = 6;
    private static final int MADE = 7, AHEAD = 8, MARKS = 9;
    private static final int[] LEAST_MARK = {0, 0, 0, 1, 1, 0, 0};
    private static final int[] MOST_MARK = {4, 9, 5, 99, 20, 999, 1};

    private static final int FROM = 0, TO = 1, DELAY = 2;
    private static final int CORDS = 3;

    private static final int WINDOW = 0, LIMIT = 1, PACE = 2;
    private static final int RULES = 3;
    private static final int[] FIRST_RULE = {8, 100, 25};
    private static final int[] LEAST_RULE = {1, 1, 5};
    private static final int[] MOST_RULE = {99, 9999, 99};

    private final Pattern now;
    private final Pattern kept;
    private final Pattern draft;
    private final Blast real;
    private final Blast thought;
    private final Planner planner;
    private final Scribe scribe;
    private final Reader reader;
    private final Shelf shelf;
    /** What fill() would lay. */
    private final int[] laid;
    private boolean hasImage;
    private boolean isReckoned;
    private boolean isDrawn;
    private boolean isWritten;
    private int texts;

    public BlastFace() {
        now = new Pattern();
        kept = new Pattern();
        draft = new Pattern();
        real = new Blast(now);
        thought = new Blast(now);
        planner = new Planner(now, real);
        scribe = new Scribe();
        reader = new Reader();
        shelf = new Shelf();
        laid = new int[MOST_SHOTS];
    }

    public int hole(int row, int column, int kind, int charge, int burden, int in) {
        return settled(now.addHole(row, column, kind, charge, burden, in));
    }

    public int of(int hole, int what) {
        if (!now.isHole(hole)) return NONE;
        if (what >= ROW && what <= DEAD) return now.mark(hole, what);
        switch (what) {
            case 7: return now.loadsOf(hole);
            case 8: return now.rockOf(hole);
            case 9: return now.needsOf(hole);
            case 10: return now.mark(hole, MADE);
            case 11: return now.mark(hole, AHEAD);
            default: return NONE;
        }
    }

    public int becomes(int hole, int what, int v) {
        return settled(now.changeMark(hole, what, v));
    }

    public int taken(int hole, int kind) {
        if (!now.isHole(hole)) return NONE;
        if (!Pattern.fits(KIND, kind)) return BAD;
        if (!Kind.isUnder(now.mark(hole, KIND), kind)) return STATE;
        return now.loadsOf(hole);
    }

    public int wire(int from, int to, int delay) {
        return settled(now.addWire(from, to, delay));
    }

    public int wired(int wire, int what) {
        if (!now.isWire(wire)) return NONE;
        switch (what) {
            case 0: return now.cord(wire, FROM) == STARTER ? STARTER_TOLD : now.cord(wire, FROM);
            case 1: return now.cord(wire, TO);
            case 2: return now.cord(wire, DELAY);
            case 3: return reckoned().endOf(wire);
            case 4: return reckoned().isTorn(wire) ? 1 : 0;
            default: return NONE;
        }
    }

    public int cut(int wire) {
        return settled(now.removeWire(wire));
    }

    public int rule(int what, int v) {
        return settled(now.changeRule(what, v));
    }

    public int drop() {
        return settled(now.removeLastHole());
    }

    public int time(int hole, int what) {
        if (!now.isHole(hole)) return NONE;
        Blast blast = reckoned();
        if (what == 0) return blast.signals[hole];
        if (!blast.doesFire(hole)) return NONE;
        switch (what) {
            case 1: return blast.times[hole];
            case 2: return blast.isBuried(hole) ? 0 : 1;
            case 3: return blast.ringOf(hole);
            default: return NONE;
        }
    }

    public int shot(int i, int what) {
        Shots shots = reckoned().shots;
        if (i < 0 || i >= shots.size) return NONE;
        switch (what) {
            case 0: return shots.times[i];
            case 1: return shots.weights[i];
            case 2: return shots.holes[i];
            default: return NONE;
        }
    }

    public int shake(int t) {
        if (t < 0 || t > MOST_T) return BAD;
        return reckoned().shots.shakeAt(t, now.rules[WINDOW]);
    }

    public int worst(int what) {
        Shots shots = reckoned().shots;
        switch (what) {
            case 0: return shots.greatest;
            case 1: return shots.greatestAt;
            case 2: return shots.over;
            case 3: return shots.size;
            default: return NONE;
        }
    }

    public int safe(int f) {
        if (f < 1 || f > MOST_FACTOR) return BAD;
        return rootAbove(f * reckoned().shots.greatest);
    }

    public long ring(int k) {
        if (k < -1 || k > MOST_RING) return NO;
        if (k >= 0) return reckoned().rockInRing(k);
        long sum = 0;
        for (int r = 1; r <= MOST_RING; r++) sum += (long) r * reckoned().rockInRing(r);
        return sum;
    }

    public int sets(int what) {
        Blast blast = reckoned();
        switch (what) {
            case 0: return blast.firing;
            case 1: return blast.buried;
            case 2: return now.deadBits();
            case 3: return blast.unsignalled();
            case 4: return blast.tornBits();
            default: return NONE;
        }
    }

    public int loads(int n, int a, int b, int c, int d) {
        if (n < 0 || n > 4) return BAD;
        int sum = 0;
        for (int i = 0; i < n; i++) {
            int hole = i == 0 ? a : i == 1 ? b : i == 2 ? c : d;
            if (!now.isHole(hole)) return NONE;
            sum += now.loadsOf(hole);
        }
        return sum;
    }

    public int misfire(int hole, int what) {
        return now.isHole(hole) && isHarm(what) ? harmTold(hole, NONE, what) : NONE;
    }

    public int broken(int wire, int what) {
        return now.isWire(wire) && isHarm(what) ? harmTold(NONE, wire, what) : NONE;
    }

    public int critical(int what) {
        switch (what) {
            case 0: return mostHarmful(now.holes, true);
            case 1: return mostHarmful(now.wires, false);
            default: return NONE;
        }
    }

    public int plan(int hole) {
        if (!now.isHole(hole)) return NONE;
        int in = drawn().ins[hole];
        return in == NONE ? STATE : in;
    }

    public int planned(int what) {
        switch (what) {
            case 0: return Integer.bitCount(drawn().settledHoles);
            case 1: return drawn().latest();
            case 2: return drawn().shots.greatest;
            default: return NONE;
        }
    }

    public int adopt() {
        int[] ins = drawn().ins;
        int adopted = 0;
        for (int h = 0; h < now.holes; h++) {
            if (ins[h] != NONE) {
                now.changeMark(h, IN, ins[h]);
                adopted++;
            }
        }
        return settled(adopted);
    }

    public int feed(int letter) {
        return reader.takeByte(letter);
    }

    public int read() {
        int fault = reader.parse();
        reader.size = 0;
        if (fault != NONE) return SYNTAX_FAULT - fault;
        draft.copyFrom(now);
        fault = reader.carryOut(draft);
        if (fault != NONE) return DOING_FAULT - fault;
        now.copyFrom(draft);
        texts++;
        return settled(reader.statements);
    }

    public int spell() {
        return written().size;
    }

    public int paper(int i) {
        Scribe paper = written();
        return i < 0 || i >= paper.size ? NONE : paper.bytes[i];
    }

    public int step() {
        Shots shots = reckoned().shots;
        if (now.clock >= shots.size) return STATE;
        int hole = shots.holes[now.clock];
        now.clock++;
        return hole;
    }

    public int stepped(int what) {
        Blast blast = reckoned();
        switch (what) {
            case 0: return now.clock;
            case 1: return blast.shots.weightOfFirst(now.clock);
            case 2: return blast.shots.lastTimeOfFirst(now.clock);
            case 3: return blast.firing & ~blast.shots.holesBehind(now.clock);
            default: return NONE;
        }
    }

    public int list(int list, int n) {
        if (!Shelf.isList(list)) return NONE;
        if (n > Shelf.MOST_ITEMS) return BAD;
        if (n < -1) return SIZE;
        shelf.renew(list, n);
        return 1;
    }

    public int put(int list, int i, long v) {
        if (!Shelf.isList(list)) return NONE;
        if (shelf.isMissing(list)) return MISSING;
        if (!shelf.hasPlace(list, i)) return OUTSIDE;
        shelf.items[list][i] = v;
        return 1;
    }

    public long get(int list, int i) {
        return Shelf.isList(list) && shelf.hasPlace(list, i) ? shelf.items[list][i] : NO;
    }

    public int fill(int list, int what) {
        if (!Shelf.isList(list) || !Blast.canLayOut(what)) return NONE;
        if (shelf.isMissing(list)) return MISSING;
        return shelf.copyIn(list, laid, reckoned().layOut(what, laid));
    }

    public int judge(int list, int what) {
        if (!Shelf.isList(list) || !Blast.canLayOut(what)) return NONE;
        if (shelf.isMissing(list)) return MISSING;
        return shelf.firstOther(list, laid, reckoned().layOut(what, laid));
    }

    public int move(int list, int i, int other, int j, int n) {
        if (!Shelf.isList(list) || !Shelf.isList(other)) return NONE;
        if (shelf.isMissing(list) || shelf.isMissing(other)) return MISSING;
        if (!shelf.hasSpan(list, i, n) || !shelf.hasSpan(other, j, n)) return OUTSIDE;
        System.arraycopy(shelf.items[list], i, shelf.items[other], j, n);
        return n;
    }

    public int count(int what) {
        switch (what) {
            case 0: return now.holes;
            case 1: return now.wires;
            case 2: return reader.size;
            case 3: return texts;
            case 4: return now.rules[WINDOW];
            case 5: return now.rules[LIMIT];
            case 6: return now.rules[PACE];
            default: return NONE;
        }
    }

    public int image() {
        kept.copyFrom(now);
        hasImage = true;
        return kept.holes;
    }

    public int undo() {
        if (!hasImage) return STATE;
        now.copyFrom(kept);
        forget();
        return now.holes;
    }

    /** What was refused leaves the CLOCK, and all that was reckoned, as it is. */
    private int settled(int answer) {
        if (answer >= 0) {
            now.clock = 0;
            forget();
        }
        return answer;
    }

    private void forget() {
        isReckoned = false;
        isDrawn = false;
        isWritten = false;
    }

    private Blast reckoned() {
        if (!isReckoned) {
            real.reckon(now.deadBits(), NONE);
            real.reckonShots();
            isReckoned = true;
        }
        return real;
    }

    private Planner drawn() {
        if (!isDrawn) {
            reckoned();
            planner.draw();
            isDrawn = true;
        }
        return planner;
    }

    private Scribe written() {
        if (!isWritten) {
            scribe.write(now);
            isWritten = true;
        }
        return scribe;
    }

    /** Reckons in thought what a DEAD HOLE more or a WIRE less makes of all; either may be NONE. */
    private void think(int hole, int wire) {
        thought.reckon(now.deadBits() | bitOf(hole), wire);
    }

    private int lostBy(int hole) {
        return real.firing & ~thought.firing & ~bitOf(hole);
    }

    private int bared() {
        return thought.buried & ~real.buried;
    }

    private static boolean isHarm(int what) {
        return what >= 0 && what <= 3;
    }

    private int harmTold(int hole, int wire, int what) {
        reckoned();
        think(hole, wire);
        if (what == 0) return lostBy(hole);
        if (what == 1) return bared();
        thought.reckonShots();
        return what == 2 ? thought.shots.greatest : thought.shots.over;
    }

    private int mostHarmful(int size, boolean areHoles) {
        reckoned();
        int best = NONE;
        int most = -1;
        for (int i = 0; i < size; i++) {
            int hole = areHoles ? i : NONE;
            think(hole, areHoles ? NONE : i);
            int harm = Integer.bitCount(lostBy(hole)) + Integer.bitCount(bared());
            if (harm > most) {
                most = harm;
                best = i;
            }
        }
        return best;
    }

    /** The bit of a HOLE; no bit of NONE. */
    private static int bitOf(int hole) {
        return hole >= 0 && hole < MOST_HOLES ? 1 << hole : 0;
    }

    private static boolean hasBit(int bits, int hole) {
        return hole >= 0 && hole < MOST_HOLES && (bits >> hole & 1) != 0;
    }

    /** The least whole number whose square is v or more. */
    private static int rootAbove(int v) {
        int low = 0;
        // its square is above the greatest v: 1000 times all that 20 HOLES can LOAD
        int high = 2000;
        for (int i = 0; i < 12 && low < high; i++) {
            int middle = (low + high) / 2;
            if (middle * middle >= v) high = middle;
            else low = middle + 1;
        }
        return low;
    }

    /** What the KINDS say; each but HOLE is under another one. */
    private static final class Kind {
        static final int HOLE = 0, SLIM = 1, DECK = 2, HEAVY = 3, BUFFER = 4, DUMMY = 5;
        static final int KINDS = 6;
        private static final int[] ABOVE = {NONE, HOLE, HOLE, DECK, SLIM, BUFFER};
        private static final int MOST_BUFFER = 9;

        static boolean isUnder(int kind, int other) {
            int k = kind;
            for (int i = 0; i < KINDS && k >= 0 && k < KINDS; i++) {
                if (k == other) return true;
                k = ABOVE[k];
            }
            return false;
        }

        /** LOAD of a HOLE's first SHOT; 0: it has none. */
        static int firstLoad(int kind, int charge) {
            switch (kind) {
                case HOLE: return charge;
                case SLIM: return charge / 2 + 1;
                case DECK: return (charge + 1) / 2;
                case HEAVY: return (charge + 1) / 2 * 2;
                case BUFFER: return charge / 2 + 1 < MOST_BUFFER ? charge / 2 + 1 : MOST_BUFFER;
                default: return 0;
            }
        }

        /** LOAD of a HOLE's second SHOT; 0: it has none. */
        static int secondLoad(int kind, int charge) {
            switch (kind) {
                case DECK: return charge / 2;
                case HEAVY: return charge / 2 * 2;
                default: return 0;
            }
        }

        static int rock(int kind, int burden) {
            if (kind == DUMMY) return 0;
            return isUnder(kind, DECK) ? 5 * burden : 4 * burden;
        }

        static int needs(int kind, int burden) {
            switch (kind) {
                case HOLE:
                case DECK: return 2 * burden;
                case SLIM: return 2 * burden - 1;
                case HEAVY:
                case BUFFER: return 3 * burden;
                default: return 0;
            }
        }

        static int made(int row, int kind, int burden) {
            int digits = 1;
            if (row == 0) digits = digits * 10 + 2;
            digits = digits * 10 + 3;
            if (kind != HOLE) digits = digits * 100 + 45;
            if (kind == HEAVY) digits = digits * 10 + 6;
            if (isUnder(kind, BUFFER)) digits = digits * 10 + 7;
            if (kind == DUMMY) digits = digits * 10 + 8;
            if (kind == DUMMY && burden == 1) digits = digits * 10 + 9;
            return digits;
        }

        static String word(int kind) {
            switch (kind) {
                case HOLE: return "hole";
                case SLIM: return "slim";
                case DECK: return "deck";
                case HEAVY: return "heavy";
                case BUFFER: return "buffer";
                default: return "dummy";
            }
        }
    }

    /** All that AN IMAGE keeps: HOLES, WIRES, rules, CLOCK. */
    private static final class Pattern {
        final int[] marks = new int[MOST_HOLES * MARKS];
        final int[] cords = new int[MOST_WIRES * CORDS];
        final int[] rules = new int[RULES];
        int holes;
        int wires;
        int clock;

        Pattern() {
            System.arraycopy(FIRST_RULE, 0, rules, 0, RULES);
        }

        void copyFrom(Pattern other) {
            System.arraycopy(other.marks, 0, marks, 0, marks.length);
            System.arraycopy(other.cords, 0, cords, 0, cords.length);
            System.arraycopy(other.rules, 0, rules, 0, RULES);
            holes = other.holes;
            wires = other.wires;
            clock = other.clock;
        }

        static boolean fits(int what, int v) {
            return what >= ROW && what <= DEAD && v >= LEAST_MARK[what] && v <= MOST_MARK[what];
        }

        boolean isHole(int hole) {
            return hole >= 0 && hole < holes;
        }

        boolean isWire(int wire) {
            return wire >= 0 && wire < wires;
        }

        int mark(int hole, int what) {
            return marks[hole * MARKS + what];
        }

        int cord(int wire, int what) {
            return cords[wire * CORDS + what];
        }

        int addHole(int row, int column, int kind, int charge, int burden, int in) {
            if (!fits(ROW, row) || !fits(COLUMN, column) || !fits(KIND, kind)) return BAD;
            if (!fits(CHARGE, charge) || !fits(BURDEN, burden) || !fits(IN, in)) return BAD;
            if (holeAt(row, column) != NONE) return STATE;
            if (holes >= MOST_HOLES) return FULL;
            int at = holes * MARKS;
            marks[at + ROW] = row;
            marks[at + COLUMN] = column;
            marks[at + KIND] = kind;
            marks[at + CHARGE] = charge;
            marks[at + BURDEN] = burden;
            marks[at + IN] = in;
            marks[at + DEAD] = 0;
            marks[at + MADE] = Kind.made(row, kind, burden);
            marks[at + AHEAD] = 0;
            markAhead(holes);
            holes++;
            return holes - 1;
        }

        /** Of a new HOLE who is AHEAD, and that it is AHEAD of others: no place and no KIND changes later. */
        private void markAhead(int hole) {
            for (int h = 0; h < hole; h++) {
                if (isAhead(h, hole)) marks[hole * MARKS + AHEAD] |= bitOf(h);
                if (isAhead(hole, h)) marks[h * MARKS + AHEAD] |= bitOf(hole);
            }
        }

        private boolean isAhead(int hole, int behind) {
            boolean isOneRowLess = mark(hole, ROW) == mark(behind, ROW) - 1;
            return isOneRowLess && columnsOff(hole, behind) <= 1 && mark(hole, KIND) != Kind.DUMMY;
        }

        int changeMark(int hole, int what, int v) {
            if (!isHole(hole)) return NONE;
            if (what < CHARGE || !fits(what, v)) return BAD;
            int was = mark(hole, what);
            marks[hole * MARKS + what] = v;
            return was;
        }

        int addWire(int from, int to, int delay) {
            if (from != STARTER && !isHole(from)) return NONE;
            if (!isHole(to) || from == to) return NONE;
            if (delay < 0 || delay > MOST_DELAY) return BAD;
            if (wires >= MOST_WIRES) return FULL;
            int at = wires * CORDS;
            cords[at + FROM] = from;
            cords[at + TO] = to;
            cords[at + DELAY] = delay;
            wires++;
            return wires - 1;
        }

        int removeWire(int wire) {
            if (!isWire(wire)) return NONE;
            int at = wire * CORDS;
            System.arraycopy(cords, at + CORDS, cords, at, wires * CORDS - at - CORDS);
            wires--;
            return wires;
        }

        int removeLastHole() {
            if (holes == 0) return STATE;
            holes--;
            for (int h = 0; h < holes; h++) marks[h * MARKS + AHEAD] &= ~bitOf(holes);
            // from behind, as those behind a WIRE that goes get other numbers
            for (int w = wires - 1; w >= 0; w--) {
                if (cord(w, FROM) == holes || cord(w, TO) == holes) removeWire(w);
            }
            return holes;
        }

        int changeRule(int what, int v) {
            if (what < 0 || what >= RULES) return NONE;
            if (v < LEAST_RULE[what] || v > MOST_RULE[what]) return BAD;
            int was = rules[what];
            rules[what] = v;
            return was;
        }

        int holeAt(int row, int column) {
            for (int h = 0; h < holes; h++) {
                if (mark(h, ROW) == row && mark(h, COLUMN) == column) return h;
            }
            return NONE;
        }

        int deadBits() {
            int bits = 0;
            for (int h = 0; h < holes; h++) {
                if (mark(h, DEAD) != 0) bits |= bitOf(h);
            }
            return bits;
        }

        boolean areNear(int hole, int other) {
            return Math.abs(mark(hole, ROW) - mark(other, ROW)) <= 1 && columnsOff(hole, other) <= 1;
        }

        private int columnsOff(int hole, int other) {
            return Math.abs(mark(hole, COLUMN) - mark(other, COLUMN));
        }

        int firstLoadOf(int hole) {
            return Kind.firstLoad(mark(hole, KIND), mark(hole, CHARGE));
        }

        int secondLoadOf(int hole) {
            return Kind.secondLoad(mark(hole, KIND), mark(hole, CHARGE));
        }

        int loadsOf(int hole) {
            return firstLoadOf(hole) + secondLoadOf(hole);
        }

        boolean hasShots(int hole) {
            return mark(hole, KIND) != Kind.DUMMY;
        }

        int rockOf(int hole) {
            return Kind.rock(mark(hole, KIND), mark(hole, BURDEN));
        }

        int needsOf(int hole) {
            return Kind.needs(mark(hole, KIND), mark(hole, BURDEN));
        }

        /** The least TIME that gives a HOLE RELIEF, if just these bits FIRE, at these times; NONE: none does. */
        int reliefOf(int hole, int firing, int[] times) {
            if (mark(hole, ROW) == 0) return 0;
            int ahead = mark(hole, AHEAD);
            if (ahead == 0 || (ahead & ~firing) != 0) return NONE;
            int latest = 0;
            for (int h = 0; h < holes; h++) {
                if (hasBit(ahead, h)) latest = Math.max(latest, times[h]);
            }
            return latest + Kind.needs(mark(hole, KIND), mark(hole, BURDEN));
        }
    }

    /** SHOTS by time, those of one time as they came, and how they shake. */
    private static final class Shots {
        final int[] times = new int[MOST_SHOTS];
        final int[] weights = new int[MOST_SHOTS];
        final int[] holes = new int[MOST_SHOTS];
        int size;
        int greatest;
        int greatestAt;
        int over;

        void clear() {
            size = 0;
        }

        /** The SHOTS of a HOLE whose TIME is this. */
        void addAll(Pattern pattern, int hole, int at) {
            insert(at, pattern.firstLoadOf(hole), hole);
            insert(at + DECK_GAP, pattern.secondLoadOf(hole), hole);
        }

        private void insert(int at, int weight, int hole) {
            if (weight == 0 || size >= MOST_SHOTS) return;
            int i = size;
            for (; i > 0 && times[i - 1] > at; i--) {
                times[i] = times[i - 1];
                weights[i] = weights[i - 1];
                holes[i] = holes[i - 1];
            }
            times[i] = at;
            weights[i] = weight;
            holes[i] = hole;
            size++;
        }

        int shakeAt(int t, int window) {
            int sum = 0;
            for (int i = 0; i < size && times[i] < t + window; i++) {
                if (times[i] >= t) sum += weights[i];
            }
            return sum;
        }

        /** WORST, its time and OVER, as soon as all SHOTS are there. */
        void weigh(int window, int limit) {
            greatest = 0;
            greatestAt = NONE;
            over = 0;
            for (int i = 0; i < size; i++) {
                boolean isNewTime = i == 0 || times[i] != times[i - 1];
                if (isNewTime) weighAt(times[i], window, limit);
            }
        }

        private void weighAt(int t, int window, int limit) {
            int shakes = shakeAt(t, window);
            if (shakes > limit) over++;
            if (shakes > greatest) {
                greatest = shakes;
                greatestAt = t;
            }
        }

        int weightOfFirst(int n) {
            int sum = 0;
            for (int i = 0; i < n && i < size; i++) sum += weights[i];
            return sum;
        }

        int lastTimeOfFirst(int n) {
            return n > 0 && n <= size ? times[n - 1] : NONE;
        }

        /** Bits of HOLES that have a SHOT behind the first n. */
        int holesBehind(int n) {
            int bits = 0;
            for (int i = Math.max(n, 0); i < size; i++) bits |= bitOf(holes[i]);
            return bits;
        }
    }

    /** Who FIRES when, and what comes of it, with some HOLES DEAD and perhaps a WIRE gone. */
    private static final class Blast {
        private static final int LAYOUTS = 3;
        final Pattern pattern;
        final int[] signals = new int[MOST_HOLES];
        final int[] times = new int[MOST_HOLES];
        final Shots shots = new Shots();
        int firing;
        int buried;
        private int dead;

        Blast(Pattern pattern) {
            this.pattern = pattern;
        }

        void reckon(int deadHoles, int goneWire) {
            dead = deadHoles;
            findSignals(goneWire);
            findFiring();
            findBuried();
        }

        void reckonShots() {
            shots.clear();
            for (int h = 0; h < pattern.holes; h++) {
                if (doesFire(h)) shots.addAll(pattern, h, times[h]);
            }
            shots.weigh(pattern.rules[WINDOW], pattern.rules[LIMIT]);
        }

        private void findSignals(int goneWire) {
            Arrays.fill(signals, NONE);
            boolean isBetter = true;
            // the least way passes a HOLE once at most, so as many rounds as HOLES find it
            for (int round = 0; round < pattern.holes && isBetter; round++) {
                isBetter = false;
                for (int w = 0; w < pattern.wires; w++) {
                    int to = pattern.cord(w, TO);
                    int end = w == goneWire ? NONE : endOf(w);
                    if (end != NONE && pattern.isHole(to) && (signals[to] == NONE || signals[to] > end)) {
                        signals[to] = end;
                        isBetter = true;
                    }
                }
            }
        }

        /** When a WIRE ENDS; NONE. */
        int endOf(int wire) {
            int from = pattern.cord(wire, FROM);
            int delay = pattern.cord(wire, DELAY);
            if (from == STARTER) return delay;
            if (!pattern.isHole(from) || hasBit(dead, from) || signals[from] == NONE) return NONE;
            return signals[from] + delay;
        }

        private void findFiring() {
            firing = 0;
            for (int h = 0; h < pattern.holes; h++) {
                boolean fires = signals[h] != NONE && !hasBit(dead, h) && pattern.hasShots(h);
                times[h] = fires ? signals[h] + pattern.mark(h, IN) : NONE;
                if (fires) firing |= bitOf(h);
            }
        }

        private void findBuried() {
            buried = 0;
            for (int h = 0; h < pattern.holes; h++) {
                if (!doesFire(h)) continue;
                int relief = pattern.reliefOf(h, firing, times);
                if (relief == NONE || times[h] < relief) buried |= bitOf(h);
            }
        }

        boolean doesFire(int hole) {
            return hasBit(firing, hole);
        }

        boolean isBuried(int hole) {
            return hasBit(buried, hole);
        }

        int unsignalled() {
            int bits = 0;
            for (int h = 0; h < pattern.holes; h++) {
                if (signals[h] == NONE) bits |= bitOf(h);
            }
            return bits;
        }

        boolean isTorn(int wire) {
            int end = endOf(wire);
            int to = pattern.cord(wire, TO);
            for (int h = 0; h < pattern.holes && end != NONE; h++) {
                if (h != to && doesFire(h) && times[h] < end && pattern.areNear(h, to)) return true;
            }
            return false;
        }

        int tornBits() {
            int bits = 0;
            for (int w = 0; w < pattern.wires && w < WIRE_BITS; w++) {
                if (isTorn(w)) bits |= 1 << w;
            }
            return bits;
        }

        /** RING of one that FIRES. */
        int ringOf(int hole) {
            int reach = pattern.loadsOf(hole) / Math.max(pattern.mark(hole, BURDEN), 1);
            return Math.min(isBuried(hole) ? 2 * reach : reach, MOST_RING);
        }

        int rockInRing(int k) {
            int sum = 0;
            for (int h = 0; h < pattern.holes; h++) {
                if (doesFire(h)) sum += rockOfIn(h, k);
            }
            return sum;
        }

        private int rockOfIn(int hole, int k) {
            int rock = pattern.rockOf(hole);
            int rings = Math.max(ringOf(hole), 0) + 1;
            if (k >= rings) return 0;
            return k == 0 ? rock / rings + rock % rings : rock / rings;
        }

        static boolean canLayOut(int what) {
            return what >= 0 && what < LAYOUTS;
        }

        /** Lays into a row what fill() tells: how many. */
        int layOut(int what, int[] row) {
            if (what == 2) {
                System.arraycopy(shots.times, 0, row, 0, Math.min(shots.size, row.length));
                return Math.min(shots.size, row.length);
            }
            int n = 0;
            for (int h = 0; h < pattern.holes && n < row.length; h++) {
                if (doesFire(h)) {
                    row[n] = what == 0 ? times[h] : pattern.loadsOf(h);
                    n++;
                }
            }
            return n;
        }
    }

    /** PLAN, from a Blast that is reckoned already. */
    private static final class Planner {
        final Pattern pattern;
        final Blast blast;
        final int[] ins = new int[MOST_HOLES];
        final int[] times = new int[MOST_HOLES];
        final Shots shots = new Shots();
        int settledHoles;
        /** LOADS of the HOLE that is being planned. */
        private int first;
        private int second;

        Planner(Pattern pattern, Blast blast) {
            this.pattern = pattern;
            this.blast = blast;
        }

        void draw() {
            Arrays.fill(ins, NONE);
            Arrays.fill(times, NONE);
            settledHoles = 0;
            shots.clear();
            for (int row = 0; row <= MOST_MARK[ROW]; row++) {
                for (int column = 0; column <= MOST_MARK[COLUMN]; column++) {
                    int hole = pattern.holeAt(row, column);
                    if (hole != NONE && blast.doesFire(hole)) settle(hole);
                }
            }
            shots.weigh(pattern.rules[WINDOW], pattern.rules[LIMIT]);
        }

        private void settle(int hole) {
            int relief = pattern.reliefOf(hole, settledHoles, times);
            if (relief == NONE) return;
            first = pattern.firstLoadOf(hole);
            second = pattern.secondLoadOf(hole);
            int pace = Math.max(pattern.rules[PACE], 1);
            for (int in = 0; in <= MOST_IN; in += pace) {
                int at = blast.signals[hole] + in;
                if (at >= relief && isQuiet(at)) {
                    ins[hole] = in;
                    times[hole] = at;
                    settledHoles |= bitOf(hole);
                    shots.addAll(pattern, hole, at);
                    return;
                }
            }
        }

        /** Looks only at windows that can hold SHOTS of the HOLE: the others shake as they did without it. */
        private boolean isQuiet(int at) {
            int limit = pattern.rules[LIMIT];
            int last = at + DECK_GAP;
            if (shakeWith(at, at) > limit) return false;
            if (second > 0 && shakeWith(at, last) > limit) return false;
            for (int i = 0; i < shots.size && shots.times[i] <= last; i++) {
                int start = shots.times[i];
                if (start > at - pattern.rules[WINDOW] && shakeWith(at, start) > limit) return false;
            }
            return true;
        }

        /** SHAKE at start of those planned and of the HOLE that is being planned, its TIME being at. */
        private int shakeWith(int at, int start) {
            int end = start + pattern.rules[WINDOW];
            int sum = shots.shakeAt(start, pattern.rules[WINDOW]);
            if (at >= start && at < end) sum += first;
            if (at + DECK_GAP >= start && at + DECK_GAP < end) sum += second;
            return sum;
        }

        /** The greatest TIME of those planned; NONE. */
        int latest() {
            int greatest = NONE;
            for (int h = 0; h < pattern.holes; h++) greatest = Math.max(greatest, times[h]);
            return greatest;
        }
    }

    /** Writes PAPER. */
    private static final class Scribe {
        /** 20 times "hole 4 9 buffer 99 20 999", 40 times "wire start 19 500", 59 times ;. */
        private static final int MOST_BYTES = 20 * 25 + 40 * 17 + 59;
        final byte[] bytes = new byte[MOST_BYTES];
        int size;

        void write(Pattern pattern) {
            size = 0;
            for (int h = 0; h < pattern.holes; h++) writeHole(pattern, h);
            for (int w = 0; w < pattern.wires; w++) writeWire(pattern, w);
        }

        private void writeHole(Pattern pattern, int hole) {
            begin("hole");
            writeNumber(pattern.mark(hole, ROW));
            writeNumber(pattern.mark(hole, COLUMN));
            writeWord(Kind.word(pattern.mark(hole, KIND)));
            writeNumber(pattern.mark(hole, CHARGE));
            writeNumber(pattern.mark(hole, BURDEN));
            writeNumber(pattern.mark(hole, IN));
        }

        private void writeWire(Pattern pattern, int wire) {
            begin("wire");
            if (pattern.cord(wire, FROM) == STARTER) writeWord("start");
            else writeNumber(pattern.cord(wire, FROM));
            writeNumber(pattern.cord(wire, TO));
            writeNumber(pattern.cord(wire, DELAY));
        }

        private void begin(String word) {
            if (size > 0) writeByte(';');
            writeLetters(word);
        }

        private void writeWord(String word) {
            writeByte(' ');
            writeLetters(word);
        }

        private void writeLetters(String word) {
            for (int i = 0; i < word.length(); i++) writeByte(word.charAt(i));
        }

        /** No number of a HOLE or a WIRE has more than three digits. */
        private void writeNumber(int v) {
            writeByte(' ');
            if (v >= 100) writeByte('0' + v / 100 % 10);
            if (v >= 10) writeByte('0' + v / 10 % 10);
            writeByte('0' + v % 10);
        }

        private void writeByte(int b) {
            if (size >= MOST_BYTES) return;
            bytes[size] = (byte) b;
            size++;
        }
    }

    /** THE TAPE, and the STATEMENTS that are read from it. */
    private static final class Reader {
        private static final int MOST_TAPE = 80, MOST_LETTER = 127, MOST_DIGITS = 4;
        /** The shortest STATEMENT is "dead0", and a ; stands between: 13 fit. */
        private static final int MOST_STATEMENTS = 13, ARGUMENTS = 6;
        private static final int END = 0, WORD = 1, NUMBER = 2, SEMICOLON = 3, WRONG = 4;
        /** The three rules stand in their own order. */
        private static final int HOLE_VERB = 0, WIRE_VERB = 1, WINDOW_VERB = 2, LIMIT_VERB = 3, PACE_VERB = 4;
        private static final int DEAD_VERB = 5, VERBS = 6;
        private static final int NO_VALUE = -2;

        final byte[] tape = new byte[MOST_TAPE];
        int size;
        int statements;
        private final int[] verbs = new int[MOST_STATEMENTS];
        private final int[] places = new int[MOST_STATEMENTS];
        private final int[] arguments = new int[MOST_STATEMENTS * ARGUMENTS];
        /** The TOKEN that is looked at: its sort, its first byte, the byte behind it. */
        private int sort;
        private int start;
        private int stop;

        int takeByte(int letter) {
            if (letter < 0 || letter > MOST_LETTER) return BAD;
            if (size >= MOST_TAPE) return FULL;
            tape[size] = (byte) letter;
            size++;
            return size;
        }

        /** Reads all STATEMENTS of THE TAPE, none is done yet: the FAULT, or NONE. */
        int parse() {
            statements = 0;
            stop = 0;
            while (statements < MOST_STATEMENTS) {
                if (!parseStatement()) return start;
                statements++;
                nextToken();
                if (sort == END) return NONE;
                if (sort != SEMICOLON) return start;
            }
            // too few bytes are left for a verb
            nextToken();
            return start;
        }

        private boolean parseStatement() {
            nextToken();
            int verb = verbHere();
            if (verb == NO_VALUE) return false;
            verbs[statements] = verb;
            places[statements] = start;
            String shape = shapeOf(verb);
            for (int i = 0; i < shape.length() && i < ARGUMENTS; i++) {
                nextToken();
                int value = valueHere(shape.charAt(i));
                if (value == NO_VALUE) return false;
                arguments[statements * ARGUMENTS + i] = value;
            }
            return true;
        }

        private static String verbWord(int verb) {
            switch (verb) {
                case HOLE_VERB: return "hole";
                case WIRE_VERB: return "wire";
                case WINDOW_VERB: return "window";
                case LIMIT_VERB: return "limit";
                case PACE_VERB: return "pace";
                default: return "dead";
            }
        }

        /** What stands behind a verb: n a NUMBER, k a KIND's WORD, f start or a NUMBER. */
        private static String shapeOf(int verb) {
            switch (verb) {
                case HOLE_VERB: return "nnknnn";
                case WIRE_VERB: return "fnn";
                default: return "n";
            }
        }

        private int verbHere() {
            for (int v = 0; v < VERBS; v++) {
                if (isWordHere(verbWord(v))) return v;
            }
            return NO_VALUE;
        }

        /** NO_VALUE: the TOKEN can't stand here. */
        private int valueHere(char shape) {
            if (shape == 'k') return kindHere();
            if (shape == 'f' && isWordHere("start")) return STARTER;
            return sort == NUMBER ? numberHere() : NO_VALUE;
        }

        private int kindHere() {
            for (int k = 0; k < Kind.KINDS; k++) {
                if (isWordHere(Kind.word(k))) return k;
            }
            return NO_VALUE;
        }

        private int numberHere() {
            int value = 0;
            for (int i = start; i < stop && i < size; i++) value = value * 10 + tape[i] - '0';
            return value;
        }

        private boolean isWordHere(String word) {
            if (sort != WORD || stop - start != word.length()) return false;
            for (int i = 0; i < word.length() && start + i < size; i++) {
                if (tape[start + i] != word.charAt(i)) return false;
            }
            return true;
        }

        private void nextToken() {
            start = stop;
            while (start < size && tape[start] == ' ') start++;
            stop = start;
            if (start >= size) {
                sort = END;
                return;
            }
            sort = sortOf(tape[start]);
            stop++;
            boolean isRun = sort == WORD || sort == NUMBER;
            while (isRun && stop < size && sortOf(tape[stop]) == sort) stop++;
            if (sort == NUMBER && stop - start > MOST_DIGITS) sort = WRONG;
        }

        private static int sortOf(byte b) {
            if (b >= 'a' && b <= 'z') return WORD;
            if (b >= '0' && b <= '9') return NUMBER;
            return b == ';' ? SEMICOLON : WRONG;
        }

        /** Does all STATEMENTS: the place of the first that can't be done, or NONE. */
        int carryOut(Pattern pattern) {
            for (int s = 0; s < statements && s < MOST_STATEMENTS; s++) {
                if (!isDone(pattern, s)) return places[s];
            }
            return NONE;
        }

        private boolean isDone(Pattern pattern, int s) {
            int[] a = arguments;
            int i = s * ARGUMENTS;
            int verb = verbs[s];
            switch (verb) {
                case HOLE_VERB: return pattern.addHole(a[i], a[i + 1], a[i + 2], a[i + 3], a[i + 4], a[i + 5]) >= 0;
                case WIRE_VERB: return pattern.addWire(a[i], a[i + 1], a[i + 2]) >= 0;
                case DEAD_VERB: return pattern.changeMark(a[i], DEAD, 1) == 0;
                default: return pattern.changeRule(verb - WINDOW_VERB, a[i]) >= 0;
            }
        }
    }

    /** The LISTS. */
    private static final class Shelf {
        static final int MOST_ITEMS = 40;
        private static final int LISTS = 4, GONE = -1;
        final long[][] items = new long[LISTS][MOST_ITEMS];
        private final int[] sizes = {GONE, GONE, GONE, GONE};

        static boolean isList(int list) {
            return list >= 0 && list < LISTS;
        }

        boolean isMissing(int list) {
            return sizes[list] == GONE;
        }

        boolean hasPlace(int list, int i) {
            return i >= 0 && i < sizes[list];
        }

        boolean hasSpan(int list, int i, int n) {
            return i >= 0 && n >= 0 && i <= sizes[list] && n <= sizes[list] - i;
        }

        void renew(int list, int n) {
            sizes[list] = n;
            Arrays.fill(items[list], 0L);
        }

        /** As many of a row's first n as have room: how many. */
        int copyIn(int list, int[] row, int n) {
            int fitting = Math.min(n, sizes[list]);
            for (int i = 0; i < fitting; i++) items[list][i] = row[i];
            return fitting;
        }

        /** The first item that is not the row's, or is beyond its n; NONE. */
        int firstOther(int list, int[] row, int n) {
            for (int i = 0; i < sizes[list]; i++) {
                if (i >= n || items[list][i] != row[i]) return i;
            }
            return NONE;
        }
    }
}
