import java.util.Random;

/** Long runs of calls drawn from fixed seeds, each answer compared with the Model's. */
public final class ModelTest {
    private static final int RUNS = 300, CALLS = 512;
    private static final int[] STRANGE = {-1, -2, 0, 1, 99, 100, 1000, Integer.MAX_VALUE, Integer.MIN_VALUE, Integer.MAX_VALUE - 1};
    private static final String[] WORDS = {"hole", "wire", "window", "limit", "pace", "dead", "start", "slim", "deck",
        "heavy", "buffer", "dummy", "hol", "holes", "x", ";", ";", "?", " ", "0", "1", "2", "12345", "0007", "Hole", "-1"};

    private final Random random;
    private final Check check;
    private final int run;
    private final BlastFace x = new BlastFace();
    private final Model m = new Model();

    private ModelTest(int run, Check check) {
        this.run = run;
        this.check = check;
        random = new Random(77_000L + run);
    }

    public static void main(String[] args) {
        Check check = new Check();
        for (int run = 0; run < RUNS && check.isClean(); run++) new ModelTest(run, check).go();
        check.end("ModelTest");
    }

    private void go() {
        int calls = 0;
        boolean wild = random.nextInt(4) == 0;
        boolean full = random.nextInt(5) == 0;
        int holes = full ? 20 : random.nextInt(21);
        for (int i = 0; i < (full ? 80 : holes) && m.count(0) < holes; i++, calls++) newHole(5 - random.nextInt(3));
        int wires = full ? 40 : Math.min(40, random.nextInt(holes * 3 + 1));
        for (int i = 0; i < (full ? 80 : wires) && m.count(1) < wires; i++, calls++) newWire();
        if (full) calls += asksAll();
        if (random.nextInt(3) > 0) {
            int window = 1 + random.nextInt(99);
            due("rule", x.rule(0, window), m.rule(0, window));
            int limit = 1 + random.nextInt(300);
            due("rule", x.rule(1, limit), m.rule(1, limit));
            calls += 2;
        }
        while (calls < CALLS - 90 && check.isClean()) calls += wild ? call(random.nextInt(42)) : usualCall();
    }

    /** All that can be asked in short, as a full pattern is where a row may be too small. */
    private int asksAll() {
        for (int i = 0; i < 5; i++) due("sets(" + i + ")", x.sets(i), m.sets(i));
        for (int i = 0; i < 4; i++) due("worst(" + i + ")", x.worst(i), m.worst(i));
        for (int i = 0; i < 2; i++) due("critical(" + i + ")", x.critical(i), m.critical(i));
        for (int i = 0; i < 3; i++) due("planned(" + i + ")", x.planned(i), m.planned(i));
        for (int i = 0; i < 20; i++) due("plan(" + i + ")", x.plan(i), m.plan(i));
        due("ring(-1)", x.ring(-1), m.ring(-1));
        due("list", x.list(0, 40), m.list(0, 40));
        for (int i = 0; i < 3; i++) due("fill(0, " + i + ")", x.fill(0, i), m.fill(0, i));
        due("judge(0, 2)", x.judge(0, 2), m.judge(0, 2));
        due("spell()", x.spell(), m.spell());
        due("image()", x.image(), m.image());
        due("adopt()", x.adopt(), m.adopt());
        for (int i = 0; i < 41; i++) due("step()", x.step(), m.step());
        due("undo()", x.undo(), m.undo());
        return 88;
    }

    /** Calls that change little, so that a pattern stands for a while. */
    private int usualCall() {
        int op = random.nextInt(60);
        if (op < 42 && (op == 9 || op == 23) && random.nextInt(4) > 0) return 0;
        return op < 42 ? call(op) : call(10 + random.nextInt(14));
    }

    private void due(String call, long got, long want) {
        check.due("run " + run + ": " + call, got, want);
    }

    private int below(int n) {
        return random.nextInt(12) == 0 ? strange() : random.nextInt(n);
    }

    private int strange() {
        return STRANGE[random.nextInt(STRANGE.length)];
    }

    private int hole() {
        return below(Math.max(1, m.count(0)) + (random.nextInt(10) == 0 ? 2 : 0));
    }

    private int wire() {
        return below(Math.max(1, m.count(1)) + (random.nextInt(10) == 0 ? 2 : 0));
    }

    private void newHole(int rows) {
        int r = random.nextInt(rows), c = random.nextInt(random.nextInt(4) == 0 ? 10 : 5), k = random.nextInt(6);
        int charge = 1 + random.nextInt(random.nextInt(3) == 0 ? 99 : 30), burden = 1 + random.nextInt(random.nextInt(3) == 0 ? 20 : 5);
        int in = random.nextInt(4) == 0 ? random.nextInt(1000) : random.nextInt(5) + 20 * r;
        due("hole", x.hole(r, c, k, charge, burden, in), m.hole(r, c, k, charge, burden, in));
    }

    private void newWire() {
        int n = Math.max(1, m.count(0));
        int from = random.nextInt(4) == 0 ? -1 : random.nextInt(n), to = random.nextInt(n);
        int delay = random.nextInt(random.nextInt(4) == 0 ? 501 : 40);
        due("wire", x.wire(from, to, delay), m.wire(from, to, delay));
    }

    private int call(int op) {
        switch (op) {
            case 0: newHole(5); return 1;
            case 1: return wildHole();
            case 2: newWire(); return 1;
            case 3: return changes();
            case 4: return texts();
            case 5: return steps();
            case 6: case 7: case 8: return listCalls();
            case 9: due("drop", x.drop(), m.drop()); return 1;
            default: return op < 24 ? asks(op) : moreAsks(op);
        }
    }

    private int wildHole() {
        int r = below(6), c = below(11), k = below(7), g = below(101), b = below(22), in = below(1001);
        due("hole(" + r + "," + c + "," + k + "," + g + "," + b + "," + in + ")", x.hole(r, c, k, g, b, in), m.hole(r, c, k, g, b, in));
        int f = random.nextBoolean() ? -1 : hole(), t = hole(), d = below(502);
        due("wire(" + f + "," + t + "," + d + ")", x.wire(f, t, d), m.wire(f, t, d));
        return 2;
    }

    private int changes() {
        int h = hole(), what = 3 + random.nextInt(4), v;
        if (random.nextInt(8) == 0) what = below(9);
        v = what == 6 ? below(2) : what == 4 ? 1 + below(20) : what == 5 ? below(1000) : 1 + below(99);
        due("becomes(" + h + "," + what + "," + v + ")", x.becomes(h, what, v), m.becomes(h, what, v));
        return 1;
    }

    private int texts() {
        StringBuilder text = new StringBuilder();
        int n = 1 + random.nextInt(4);
        for (int i = 0; i < n; i++) {
            if (i > 0) text.append(random.nextInt(5) == 0 ? " ; " : ";");
            text.append(statement());
        }
        int spoil = random.nextInt(4);
        if (spoil == 0 && text.length() > 0) {
            int at = random.nextInt(text.length() + 1);
            text.insert(at, WORDS[random.nextInt(WORDS.length)]);
        } else if (spoil == 1 && text.length() > 0 && random.nextBoolean()) {
            text.setLength(random.nextInt(text.length() + 1));
        }
        int calls = 0;
        for (int i = 0; i < text.length() && i < 82; i++, calls++) due("feed", x.feed(text.charAt(i)), m.feed(text.charAt(i)));
        due("read() of \"" + text + "\"", x.read(), m.read());
        return calls + 1;
    }

    private String statement() {
        int n = Math.max(1, m.count(0));
        switch (random.nextInt(7)) {
            case 0: return "window " + random.nextInt(101);
            case 1: return "limit" + random.nextInt(10001);
            case 2: return "pace  " + random.nextInt(101);
            case 3: return "dead " + random.nextInt(n + 1);
            case 4: return "wire " + (random.nextBoolean() ? "start" : "" + random.nextInt(n)) + " " + random.nextInt(n + 1) + " " + random.nextInt(510);
            default: return "hole " + random.nextInt(5) + " " + random.nextInt(10) + WORDS[random.nextInt(12)] + " "
                + (1 + random.nextInt(99)) + " " + (1 + random.nextInt(20)) + " " + random.nextInt(1000);
        }
    }

    private int steps() {
        int n = random.nextInt(6);
        for (int i = 0; i < n; i++) due("step", x.step(), m.step());
        for (int i = 0; i < 4; i++) due("stepped(" + i + ")", x.stepped(i), m.stepped(i));
        return n + 4;
    }

    private int listCalls() {
        int list = below(4), other = below(4), what = below(3), i = below(20), j = below(20), n = below(20);
        switch (random.nextInt(7)) {
            case 0: int size = below(41); due("list(" + list + "," + size + ")", x.list(list, size), m.list(list, size)); break;
            case 1: long v = random.nextBoolean() ? random.nextLong() : random.nextInt(9); due("put", x.put(list, i, v), m.put(list, i, v)); break;
            case 2: due("get", x.get(list, i), m.get(list, i)); break;
            case 3: due("fill", x.fill(list, what), m.fill(list, what)); break;
            case 4: due("judge", x.judge(list, what), m.judge(list, what)); break;
            case 5: due("move(" + list + "," + i + "," + other + "," + j + "," + n + ")", x.move(list, i, other, j, n), m.move(list, i, other, j, n)); break;
            default:
                due("fill", x.fill(list, what), m.fill(list, what));
                due("judge", x.judge(list, what), m.judge(list, what));
                for (int k = 0; k < 40; k += 3) due("get", x.get(list, k), m.get(list, k));
                return 16;
        }
        return 1;
    }

    private int asks(int op) {
        int h = hole(), w = wire(), what = below(5), f = below(1001), t = below(100) + random.nextInt(3) * 50, k = below(11) - 1;
        switch (op) {
            case 10: int o = below(13); due("of(" + h + "," + o + ")", x.of(h, o), m.of(h, o)); return 1;
            case 11: int kind = below(7); due("taken(" + h + "," + kind + ")", x.taken(h, kind), m.taken(h, kind)); return 1;
            case 12: due("wired(" + w + "," + what + ")", x.wired(w, what), m.wired(w, what)); return 1;
            case 13: due("time(" + h + "," + what + ")", x.time(h, what), m.time(h, what)); return 1;
            case 14: int i = below(40); due("shot(" + i + "," + what + ")", x.shot(i, what), m.shot(i, what)); return 1;
            case 15: due("shake(" + t + ")", x.shake(t), m.shake(t)); return 1;
            case 16: due("worst(" + what + ")", x.worst(what), m.worst(what)); return 1;
            case 17: due("safe(" + f + ")", x.safe(f), m.safe(f)); return 1;
            case 18: due("ring(" + k + ")", x.ring(k), m.ring(k)); return 1;
            case 19: int s = below(6); due("sets(" + s + ")", x.sets(s), m.sets(s)); return 1;
            case 20: int a = hole(), b = hole(), n = below(6);
                due("loads(" + n + "," + h + "," + a + "," + b + "," + h + ")", x.loads(n, h, a, b, h), m.loads(n, h, a, b, h)); return 1;
            case 21: due("misfire(" + h + "," + what + ")", x.misfire(h, what), m.misfire(h, what)); return 1;
            case 22: due("broken(" + w + "," + what + ")", x.broken(w, what), m.broken(w, what)); return 1;
            default: int z = below(3); due("critical(" + z + ")", x.critical(z), m.critical(z)); return 1;
        }
    }

    private int moreAsks(int op) {
        int h = hole(), w = wire(), v = below(101), what = below(4);
        switch (op) {
            case 24: case 25: due("plan(" + h + ")", x.plan(h), m.plan(h)); return 1;
            case 26: due("planned(" + what + ")", x.planned(what), m.planned(what)); return 1;
            case 27: if (random.nextInt(3) == 0) due("adopt()", x.adopt(), m.adopt()); return 1;
            case 28: due("cut(" + w + ")", x.cut(w), m.cut(w)); return 1;
            case 29: case 30: due("rule(" + what + "," + v + ")", x.rule(what, v), m.rule(what, v)); return 1;
            case 31: case 32: due("spell()", x.spell(), m.spell()); return 1;
            case 33: case 34: int i = below(400); due("paper(" + i + ")", x.paper(i), m.paper(i)); return 1;
            case 35: case 36: int c = below(8); due("count(" + c + ")", x.count(c), m.count(c)); return 1;
            case 37: due("image()", x.image(), m.image()); return 1;
            case 38: due("undo()", x.undo(), m.undo()); return 1;
            case 39: int s = strange(); due("feed(" + s + ")", x.feed(s), m.feed(s)); return 1;
            case 40: due("step()", x.step(), m.step()); return 1;
            default: int q = below(5); due("stepped(" + q + ")", x.stepped(q), m.stepped(q)); return 1;
        }
    }
}
