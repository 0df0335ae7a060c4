import java.util.ArrayList;
import java.util.Arrays;
import java.util.Comparator;
import java.util.List;
import java.util.TreeSet;

/** The document's words once more, in the plainest and slowest form, for ModelTest to compare with. */
final class Model {
    static final int NONE = -1, BAD = -2, STATE = -3, FULL = -4, MISSING = -11, OUTSIDE = -12, SIZE = -14;

    record Shot(int time, int load, int hole) {}

    record Wire(int from, int to, int delay) {}

    static class Hole {
        int row, column, charge, burden, in;
        boolean dead;
        StringBuilder made = new StringBuilder();

        Hole(int row, int column, int charge, int burden, int in) {
            this.row = row;
            this.column = column;
            this.charge = charge;
            this.burden = burden;
            this.in = in;
            made.append(1);
            if (row == 0) made.append(2);
            made.append(3);
        }

        int kind() { return 0; }
        String word() { return "hole"; }
        int[] parts() { return new int[] {charge}; }
        int rock() { return 4 * burden; }
        int needs() { return burden + burden; }
        final int loads() { return Arrays.stream(parts()).sum(); }

        final Hole copy() {
            Hole h = of(row, column, kind(), charge, burden, in);
            h.dead = dead;
            h.made = made;
            return h;
        }

        static Hole of(int row, int column, int kind, int charge, int burden, int in) {
            return switch (kind) {
                case 0 -> new Hole(row, column, charge, burden, in);
                case 1 -> new Slim(row, column, charge, burden, in);
                case 2 -> new Deck(row, column, charge, burden, in);
                case 3 -> new Heavy(row, column, charge, burden, in);
                case 4 -> new Buffer(row, column, charge, burden, in);
                default -> new Dummy(row, column, charge, burden, in);
            };
        }

        boolean is(int kind) {
            return switch (kind) {
                case 0 -> true;
                case 1 -> this instanceof Slim;
                case 2 -> this instanceof Deck;
                case 3 -> this instanceof Heavy;
                case 4 -> this instanceof Buffer;
                default -> this instanceof Dummy;
            };
        }
    }

    static class Slim extends Hole {
        Slim(int r, int c, int charge, int burden, int in) { super(r, c, charge, burden, in); made.append(4).append(5); }
        @Override int kind() { return 1; }
        @Override String word() { return "slim"; }
        @Override int[] parts() { return new int[] {(int) Math.floor(charge / 2.0) + 1}; }
        @Override int needs() { return super.needs() - 1; }
    }

    static class Deck extends Hole {
        Deck(int r, int c, int charge, int burden, int in) { super(r, c, charge, burden, in); made.append(4).append(5); }
        @Override int kind() { return 2; }
        @Override String word() { return "deck"; }
        @Override int[] parts() {
            int upper = (int) Math.ceil(charge / 2.0);
            return charge == upper ? new int[] {upper} : new int[] {upper, charge - upper};
        }
        @Override int rock() { return super.rock() + burden; }
    }

    static class Heavy extends Deck {
        Heavy(int r, int c, int charge, int burden, int in) { super(r, c, charge, burden, in); made.append(6); }
        @Override int kind() { return 3; }
        @Override String word() { return "heavy"; }
        @Override int[] parts() { return Arrays.stream(super.parts()).map(v -> v * 2).toArray(); }
        @Override int needs() { return super.needs() + burden; }
    }

    static class Buffer extends Slim {
        Buffer(int r, int c, int charge, int burden, int in) { super(r, c, charge, burden, in); made.append(7); }
        @Override int kind() { return 4; }
        @Override String word() { return "buffer"; }
        @Override int[] parts() { return Arrays.stream(super.parts()).map(v -> v > 9 ? 9 : v).toArray(); }
        @Override int needs() { return 3 * burden; }
    }

    static class Dummy extends Buffer {
        Dummy(int r, int c, int charge, int burden, int in) {
            super(r, c, charge, burden, in);
            made.append(8);
            if (burden == 1) made.append(9);
        }
        @Override int kind() { return 5; }
        @Override String word() { return "dummy"; }
        @Override int[] parts() { return new int[0]; }
        @Override int rock() { return 0; }
        @Override int needs() { return 0; }
    }

    /** What AN IMAGE keeps. */
    static final class World {
        List<Hole> holes = new ArrayList<>();
        List<Wire> wires = new ArrayList<>();
        int window = 8, limit = 100, pace = 25, clock = 0;

        World copy() {
            World w = new World();
            for (Hole h : holes) w.holes.add(h.copy());
            w.wires.addAll(wires);
            w.window = window;
            w.limit = limit;
            w.pace = pace;
            w.clock = clock;
            return w;
        }

        boolean isHole(int h) { return h >= 0 && h < holes.size(); }

        int addHole(int row, int column, int kind, int charge, int burden, int in) {
            if (row < 0 || row > 4 || column < 0 || column > 9 || kind < 0 || kind > 5) return BAD;
            if (charge < 1 || charge > 99 || burden < 1 || burden > 20 || in < 0 || in > 999) return BAD;
            if (holes.stream().anyMatch(h -> h.row == row && h.column == column)) return STATE;
            if (holes.size() == 20) return FULL;
            holes.add(Hole.of(row, column, kind, charge, burden, in));
            return holes.size() - 1;
        }

        int addWire(int from, int to, int delay) {
            if (from != -1 && !isHole(from) || !isHole(to) || from == to) return NONE;
            if (delay < 0 || delay > 500) return BAD;
            if (wires.size() == 40) return FULL;
            wires.add(new Wire(from, to, delay));
            return wires.size() - 1;
        }

        int setRule(int what, int v) {
            int was = what == 0 ? window : what == 1 ? limit : pace;
            if (what < 0 || what > 2) return NONE;
            if (what == 0 && (v < 1 || v > 99) || what == 1 && (v < 1 || v > 9999) || what == 2 && (v < 5 || v > 99)) return BAD;
            if (what == 0) window = v;
            if (what == 1) limit = v;
            if (what == 2) pace = v;
            return was;
        }

        /** Of all HOLES, by Floyd's sums. */
        int[] signals() {
            int n = holes.size();
            long[][] d = new long[n + 1][n + 1];
            for (long[] row : d) Arrays.fill(row, Integer.MAX_VALUE);
            for (Wire w : wires) {
                if (w.from >= 0 && holes.get(w.from).dead) continue;
                int f = w.from < 0 ? n : w.from;
                d[f][w.to] = Math.min(d[f][w.to], w.delay);
            }
            for (int k = 0; k < n; k++)
                for (int i = 0; i <= n; i++)
                    for (int j = 0; j <= n; j++) d[i][j] = Math.min(d[i][j], d[i][k] + d[k][j]);
            int[] all = new int[n];
            for (int i = 0; i < n; i++) all[i] = d[n][i] >= Integer.MAX_VALUE ? NONE : (int) d[n][i];
            return all;
        }

        int signal(int hole) { return signals()[hole]; }

        int[] times() {
            int[] t = new int[holes.size()];
            int[] signals = signals();
            for (int i = 0; i < t.length; i++) {
                Hole h = holes.get(i);
                int s = h.dead || h.parts().length == 0 ? NONE : signals[i];
                t[i] = s == NONE ? NONE : s + h.in;
            }
            return t;
        }

        List<Integer> ahead(int hole) {
            List<Integer> all = new ArrayList<>();
            Hole me = holes.get(hole);
            for (int i = 0; i < holes.size(); i++) {
                Hole h = holes.get(i);
                if (h.kind() != 5 && h.row + 1 == me.row && Math.abs(h.column - me.column) < 2) all.add(i);
            }
            return all;
        }

        boolean relief(int hole, int time, int[] times) {
            Hole me = holes.get(hole);
            if (me.row == 0) return true;
            List<Integer> ahead = ahead(hole);
            return !ahead.isEmpty() && ahead.stream().allMatch(a -> times[a] != NONE && time - times[a] >= me.needs());
        }

        int firesBits() {
            int bits = 0;
            int[] t = times();
            for (int i = 0; i < t.length; i++) if (t[i] != NONE) bits |= 1 << i;
            return bits;
        }

        int buriedBits() {
            int bits = 0;
            int[] t = times();
            for (int i = 0; i < t.length; i++) if (t[i] != NONE && !relief(i, t[i], t)) bits |= 1 << i;
            return bits;
        }

        List<Shot> shotsAt(int[] times) {
            List<Shot> all = new ArrayList<>();
            for (int i = 0; i < times.length; i++) {
                if (times[i] == NONE) continue;
                int[] parts = holes.get(i).parts();
                for (int k = 0; k < parts.length; k++) all.add(new Shot(times[i] + 17 * k, parts[k], i));
            }
            all.sort(Comparator.comparingInt(Shot::time).thenComparingInt(Shot::hole));
            return all;
        }

        List<Shot> shots() { return shotsAt(times()); }

        int shake(List<Shot> shots, int t) {
            return shots.stream().filter(s -> s.time >= t && s.time <= t + window - 1).mapToInt(Shot::load).sum();
        }

        int worst(List<Shot> shots) {
            return shots.stream().mapToInt(s -> shake(shots, s.time)).max().orElse(0);
        }

        int over(List<Shot> shots) {
            TreeSet<Integer> times = new TreeSet<>();
            for (Shot s : shots) if (shake(shots, s.time) > limit) times.add(s.time);
            return times.size();
        }

        int ends(Wire w) {
            if (w.from < 0) return w.delay;
            int s = holes.get(w.from).dead ? NONE : signal(w.from);
            return s == NONE ? NONE : s + w.delay;
        }

        boolean torn(Wire w) {
            int end = ends(w);
            if (end == NONE) return false;
            Hole to = holes.get(w.to);
            int[] t = times();
            for (int i = 0; i < t.length; i++) {
                Hole h = holes.get(i);
                boolean near = Math.abs(h.row - to.row) < 2 && Math.abs(h.column - to.column) < 2;
                if (i != w.to && near && t[i] != NONE && t[i] < end) return true;
            }
            return false;
        }

        int ring(int hole) {
            Hole h = holes.get(hole);
            int r = h.loads() / h.burden;
            if ((buriedBits() >> hole & 1) == 1) r *= 2;
            return Math.min(9, r);
        }

        long[] rings() {
            long[] all = new long[10];
            int[] t = times();
            for (int i = 0; i < t.length; i++) {
                if (t[i] == NONE) continue;
                int r = ring(i), rock = holes.get(i).rock();
                for (int k = 0; k <= r; k++) all[k] += rock / (r + 1);
                all[0] += rock - rock / (r + 1) * (r + 1);
            }
            return all;
        }

        /** IN by HOLES, -1 for who isn't planned. */
        int[] plan() {
            int n = holes.size();
            int[] ins = new int[n], planned = new int[n];
            Arrays.fill(ins, NONE);
            Arrays.fill(planned, NONE);
            int[] now = times();
            List<Integer> order = new ArrayList<>();
            for (int i = 0; i < n; i++) if (now[i] != NONE) order.add(i);
            order.sort(Comparator.comparingInt(i -> holes.get(i).row * 10 + holes.get(i).column));
            for (int h : order) {
                int s = signal(h);
                for (int in = 0; in <= 999; in += pace) {
                    if (!relief(h, s + in, planned)) continue;
                    planned[h] = s + in;
                    if (worst(shotsAt(planned)) <= limit) {
                        ins[h] = in;
                        break;
                    }
                    planned[h] = NONE;
                }
            }
            return ins;
        }

        int[] plannedTimes() {
            int[] ins = plan();
            int[] t = new int[ins.length];
            for (int i = 0; i < t.length; i++) t[i] = ins[i] == NONE ? NONE : signal(i) + ins[i];
            return t;
        }

        String paper() {
            List<String> all = new ArrayList<>();
            for (Hole h : holes) all.add("hole " + h.row + " " + h.column + " " + h.word() + " " + h.charge + " " + h.burden + " " + h.in);
            for (Wire w : wires) all.add("wire " + (w.from < 0 ? "start" : "" + w.from) + " " + w.to + " " + w.delay);
            return String.join(";", all);
        }
    }

    World world = new World();
    World image = null;
    StringBuilder tape = new StringBuilder();
    int texts = 0;
    long[][] lists = new long[4][];

    private int done(int answer) {
        if (answer >= 0) world.clock = 0;
        return answer;
    }

    int hole(int row, int column, int kind, int charge, int burden, int in) {
        return done(world.addHole(row, column, kind, charge, burden, in));
    }

    int of(int hole, int what) {
        if (!world.isHole(hole)) return NONE;
        Hole h = world.holes.get(hole);
        return switch (what) {
            case 0 -> h.row;
            case 1 -> h.column;
            case 2 -> h.kind();
            case 3 -> h.charge;
            case 4 -> h.burden;
            case 5 -> h.in;
            case 6 -> h.dead ? 1 : 0;
            case 7 -> h.loads();
            case 8 -> h.rock();
            case 9 -> h.needs();
            case 10 -> Integer.parseInt(h.made.toString());
            case 11 -> world.ahead(hole).stream().mapToInt(a -> 1 << a).sum();
            default -> NONE;
        };
    }

    int becomes(int hole, int what, int v) {
        if (!world.isHole(hole)) return NONE;
        Hole h = world.holes.get(hole);
        int was = of(hole, what);
        switch (what) {
            case 3: if (v < 1 || v > 99) return BAD; h.charge = v; break;
            case 4: if (v < 1 || v > 20) return BAD; h.burden = v; break;
            case 5: if (v < 0 || v > 999) return BAD; h.in = v; break;
            case 6: if (v < 0 || v > 1) return BAD; h.dead = v == 1; break;
            default: return BAD;
        }
        return done(was);
    }

    int taken(int hole, int kind) {
        if (!world.isHole(hole)) return NONE;
        if (kind < 0 || kind > 5) return BAD;
        return world.holes.get(hole).is(kind) ? world.holes.get(hole).loads() : STATE;
    }

    int wire(int from, int to, int delay) { return done(world.addWire(from, to, delay)); }

    int wired(int wire, int what) {
        if (wire < 0 || wire >= world.wires.size()) return NONE;
        Wire w = world.wires.get(wire);
        return switch (what) {
            case 0 -> w.from == -1 ? 99 : w.from;
            case 1 -> w.to;
            case 2 -> w.delay;
            case 3 -> world.ends(w);
            case 4 -> world.torn(w) ? 1 : 0;
            default -> NONE;
        };
    }

    int cut(int wire) {
        if (wire < 0 || wire >= world.wires.size()) return NONE;
        world.wires.remove(wire);
        return done(world.wires.size());
    }

    int rule(int what, int v) { return done(world.setRule(what, v)); }

    int drop() {
        if (world.holes.isEmpty()) return STATE;
        int last = world.holes.size() - 1;
        world.holes.remove(last);
        world.wires.removeIf(w -> w.from == last || w.to == last);
        return done(last);
    }

    int time(int hole, int what) {
        if (!world.isHole(hole)) return NONE;
        if (what == 0) return world.signal(hole);
        int t = world.times()[hole];
        if (t == NONE) return NONE;
        return switch (what) {
            case 1 -> t;
            case 2 -> 1 - (world.buriedBits() >> hole & 1);
            case 3 -> world.ring(hole);
            default -> NONE;
        };
    }

    int shot(int i, int what) {
        List<Shot> shots = world.shots();
        if (i < 0 || i >= shots.size()) return NONE;
        Shot s = shots.get(i);
        return what == 0 ? s.time : what == 1 ? s.load : what == 2 ? s.hole : NONE;
    }

    int shake(int t) { return t < 0 || t > 99999 ? BAD : world.shake(world.shots(), t); }

    int worst(int what) {
        List<Shot> shots = world.shots();
        int worst = world.worst(shots);
        return switch (what) {
            case 0 -> worst;
            case 1 -> shots.stream().mapToInt(Shot::time).filter(t -> world.shake(shots, t) == worst).min().orElse(NONE);
            case 2 -> world.over(shots);
            case 3 -> shots.size();
            default -> NONE;
        };
    }

    int safe(int f) {
        if (f < 1 || f > 1000) return BAD;
        int d = 0;
        while (d * d < f * worst(0)) d++;
        return d;
    }

    long ring(int k) {
        if (k < -1 || k > 9) return Long.MIN_VALUE;
        long[] rings = world.rings();
        if (k >= 0) return rings[k];
        long sum = 0;
        for (int i = 0; i < 10; i++) sum += i * rings[i];
        return sum;
    }

    int sets(int what) {
        int bits = 0;
        switch (what) {
            case 0: return world.firesBits();
            case 1: return world.buriedBits();
            case 2: for (int i = 0; i < world.holes.size(); i++) if (world.holes.get(i).dead) bits |= 1 << i; return bits;
            case 3: for (int i = 0; i < world.holes.size(); i++) if (world.signal(i) == NONE) bits |= 1 << i; return bits;
            case 4: for (int i = 0; i < world.wires.size() && i <= 30; i++) if (world.torn(world.wires.get(i))) bits |= 1 << i; return bits;
            default: return NONE;
        }
    }

    int loads(int n, int a, int b, int c, int d) {
        if (n < 0 || n > 4) return BAD;
        int sum = 0;
        int[] all = {a, b, c, d};
        for (int h : Arrays.copyOf(all, n)) if (!world.isHole(h)) return NONE;
        for (int h : Arrays.copyOf(all, n)) sum += world.holes.get(h).loads();
        return sum;
    }

    private int harm(World then, int self, int what) {
        return switch (what) {
            case 0 -> world.firesBits() & ~then.firesBits() & ~self;
            case 1 -> then.buriedBits() & ~world.buriedBits();
            case 2 -> then.worst(then.shots());
            case 3 -> then.over(then.shots());
            default -> NONE;
        };
    }

    int misfire(int hole, int what) {
        if (!world.isHole(hole)) return NONE;
        World then = world.copy();
        then.holes.get(hole).dead = true;
        return harm(then, 1 << hole, what);
    }

    int broken(int wire, int what) {
        if (wire < 0 || wire >= world.wires.size()) return NONE;
        World then = world.copy();
        then.wires.remove(wire);
        return harm(then, 0, what);
    }

    int critical(int what) {
        if (what < 0 || what > 1) return NONE;
        int n = what == 0 ? world.holes.size() : world.wires.size();
        int best = NONE, most = -1;
        for (int i = n - 1; i >= 0; i--) {
            int lost = what == 0 ? misfire(i, 0) : broken(i, 0);
            int bared = what == 0 ? misfire(i, 1) : broken(i, 1);
            int harm = Integer.bitCount(lost) + Integer.bitCount(bared);
            if (harm >= most) {
                most = harm;
                best = i;
            }
        }
        return best;
    }

    int plan(int hole) {
        if (!world.isHole(hole)) return NONE;
        int in = world.plan()[hole];
        return in == NONE ? STATE : in;
    }

    int planned(int what) {
        int[] t = world.plannedTimes();
        return switch (what) {
            case 0 -> (int) Arrays.stream(t).filter(v -> v != NONE).count();
            case 1 -> Arrays.stream(t).max().orElse(NONE);
            case 2 -> world.worst(world.shotsAt(t));
            default -> NONE;
        };
    }

    int adopt() {
        int[] ins = world.plan();
        int n = 0;
        for (int i = 0; i < ins.length; i++) {
            if (ins[i] == NONE) continue;
            world.holes.get(i).in = ins[i];
            n++;
        }
        return done(n);
    }

    int feed(int letter) {
        if (letter < 0 || letter > 127) return BAD;
        if (tape.length() == 80) return FULL;
        tape.append((char) letter);
        return tape.length();
    }

    int read() {
        String text = tape.toString();
        tape.setLength(0);
        ModelText parsed = new ModelText(text);
        if (parsed.fault >= 0) return -100 - parsed.fault;
        World then = world.copy();
        for (ModelText.Statement s : parsed.statements) if (!doIt(then, s)) return -300 - s.place();
        world = then;
        texts++;
        return done(parsed.statements.size());
    }

    private static boolean doIt(World w, ModelText.Statement s) {
        int[] a = s.values();
        switch (s.verb()) {
            case "hole": return w.addHole(a[0], a[1], a[2], a[3], a[4], a[5]) >= 0;
            case "wire": return w.addWire(a[0], a[1], a[2]) >= 0;
            case "window": return w.setRule(0, a[0]) >= 0;
            case "limit": return w.setRule(1, a[0]) >= 0;
            case "pace": return w.setRule(2, a[0]) >= 0;
            default:
                if (!w.isHole(a[0]) || w.holes.get(a[0]).dead) return false;
                w.holes.get(a[0]).dead = true;
                return true;
        }
    }

    int spell() { return world.paper().length(); }

    int paper(int i) { return i < 0 || i >= spell() ? NONE : world.paper().charAt(i); }

    int step() {
        List<Shot> shots = world.shots();
        return world.clock >= shots.size() ? STATE : shots.get(world.clock++).hole;
    }

    int stepped(int what) {
        List<Shot> shots = world.shots();
        List<Shot> past = shots.subList(0, world.clock);
        switch (what) {
            case 0: return past.size();
            case 1: return past.stream().mapToInt(Shot::load).sum();
            case 2: return past.isEmpty() ? NONE : past.get(past.size() - 1).time;
            case 3:
                int bits = 0;
                for (int i = 0; i < world.holes.size(); i++) {
                    int h = i;
                    long all = shots.stream().filter(s -> s.hole == h).count();
                    if (all > 0 && past.stream().filter(s -> s.hole == h).count() == all) bits |= 1 << i;
                }
                return bits;
            default: return NONE;
        }
    }

    int list(int list, int n) {
        if (list < 0 || list > 3) return NONE;
        if (n > 40) return BAD;
        if (n < -1) return SIZE;
        lists[list] = n == -1 ? null : new long[n];
        return 1;
    }

    int put(int list, int i, long v) {
        if (list < 0 || list > 3) return NONE;
        if (lists[list] == null) return MISSING;
        if (i < 0 || i >= lists[list].length) return OUTSIDE;
        lists[list][i] = v;
        return 1;
    }

    long get(int list, int i) {
        if (list < 0 || list > 3 || lists[list] == null || i < 0 || i >= lists[list].length) return Long.MIN_VALUE;
        return lists[list][i];
    }

    private long[] would(int what) {
        if (what == 2) return world.shots().stream().mapToLong(Shot::time).toArray();
        int[] t = world.times();
        List<Long> all = new ArrayList<>();
        for (int i = 0; i < t.length; i++) if (t[i] != NONE) all.add(what == 0 ? t[i] : (long) world.holes.get(i).loads());
        return all.stream().mapToLong(v -> v).toArray();
    }

    int fill(int list, int what) {
        if (list < 0 || list > 3 || what < 0 || what > 2) return NONE;
        if (lists[list] == null) return MISSING;
        long[] from = would(what);
        int n = Math.min(from.length, lists[list].length);
        for (int i = 0; i < n; i++) lists[list][i] = from[i];
        return n;
    }

    int judge(int list, int what) {
        if (list < 0 || list > 3 || what < 0 || what > 2) return NONE;
        if (lists[list] == null) return MISSING;
        long[] from = would(what);
        for (int i = 0; i < lists[list].length; i++) {
            if (i >= from.length || lists[list][i] != from[i]) return i;
        }
        return NONE;
    }

    int move(int list, int i, int other, int j, int n) {
        if (list < 0 || list > 3 || other < 0 || other > 3) return NONE;
        if (lists[list] == null || lists[other] == null) return MISSING;
        if (n < 0 || i < 0 || j < 0) return OUTSIDE;
        if ((long) i + n > lists[list].length || (long) j + n > lists[other].length) return OUTSIDE;
        long[] were = lists[list].clone();
        for (int k = 0; k < n; k++) lists[other][j + k] = were[i + k];
        return n;
    }

    int count(int what) {
        return switch (what) {
            case 0 -> world.holes.size();
            case 1 -> world.wires.size();
            case 2 -> tape.length();
            case 3 -> texts;
            case 4 -> world.window;
            case 5 -> world.limit;
            case 6 -> world.pace;
            default -> NONE;
        };
    }

    int image() {
        image = world.copy();
        return image.holes.size();
    }

    int undo() {
        if (image == null) return STATE;
        world = image.copy();
        return world.holes.size();
    }
}
