import java.lang.management.ManagementFactory;

/** All that a run makes is kept: an object makes its rows once, and its calls make none. */
public final class RoomTest {
    private static final int CALLS = 512;
    /** Of each kind of call; far below one small array a call. */
    private static final long MOST_BYTES_A_CALL = 4;
    private static final long MOST_BYTES_AN_OBJECT = 24_000;

    private static final com.sun.management.ThreadMXBean BEAN = (com.sun.management.ThreadMXBean) ManagementFactory.getThreadMXBean();

    public static void main(String[] args) {
        Check check = new Check();
        // once ahead, as the first one loads the classes
        new BlastFace();
        made();
        long before = made();
        BlastFace x = new BlastFace();
        long object = made() - before;
        check.holds("an object takes " + object + " bytes", object < MOST_BYTES_AN_OBJECT);
        for (int i = 0; i < 20; i++) x.hole(i / 5, i % 5, i % 6, 60, 1, i);
        for (int i = 0; i < 40; i++) x.wire(i % 20 - 1, i % 20, i);
        x.list(0, 40);
        x.list(1, 40);
        // likewise the first call of each
        for (int kind = 0; kind < 24; kind++) call(x, kind, 0);
        for (int kind = 0; kind < 24; kind++) {
            before = made();
            for (int i = 0; i < CALLS; i++) call(x, kind, i);
            long bytes = made() - before;
            check.holds("calls of kind " + kind + " took " + bytes + " bytes", bytes <= CALLS * MOST_BYTES_A_CALL);
        }
        check.end("RoomTest");
    }

    private static long made() {
        return BEAN.getThreadAllocatedBytes(Thread.currentThread().getId());
    }

    private static void call(BlastFace x, int kind, int i) {
        switch (kind) {
            case 0: x.becomes(i % 20, 5, i % 900); x.worst(0); break;
            case 1: x.critical(0); break;
            case 2: x.critical(1); break;
            case 3: x.rule(1, 100 + i % 2); x.planned(1); break;
            case 4: x.misfire(i % 20, 2); break;
            case 5: x.broken(i % 40, 3); break;
            case 6: x.rule(0, 1 + i % 90); x.spell(); x.paper(i); break;
            case 7: x.image(); break;
            case 8: x.undo(); break;
            case 9: x.step(); x.stepped(3); break;
            case 10: x.list(2, i % 41); x.fill(2, 2); x.judge(2, 2); break;
            case 11: x.move(0, 1, 1, 0, 20); break;
            case 12: feed(x, "window 9;limit 100;wire 1 2"); x.read(); break;
            case 13: feed(x, "window 9;limit 100;pace 9"); x.read(); break;
            case 14: x.wire(0, 1, 2); x.cut(39); break;
            case 15: x.drop(); x.hole(4, 9, 3, 9, 9, 9); break;
            case 16: x.adopt(); break;
            case 17: x.ring(-1); x.safe(1000); break;
            case 18: x.sets(4); x.wired(3, 4); break;
            case 19: x.shake(i); x.shot(i % 40, 0); break;
            case 20: x.time(i % 20, 3); x.of(i % 20, 11); break;
            case 21: x.loads(4, 0, 1, 2, 3); x.taken(3, 2); break;
            case 22: x.put(0, i % 40, i); x.get(0, i % 40); break;
            default: x.count(i % 7); x.plan(i % 20); break;
        }
    }

    private static void feed(BlastFace x, String text) {
        for (int i = 0; i < text.length(); i++) x.feed(text.charAt(i));
    }
}
