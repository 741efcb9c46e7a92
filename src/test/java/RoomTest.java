import java.lang.management.ManagementFactory;

/** All calls of a run live in one room: what is made in the dearest runs of 512 calls stays small. */
public final class RoomTest {
    private static final Checks C = new Checks();
    /** 7.3 million elements at two bytes and a half each: far below what the room holds. */
    private static final long MOST = 18_000_000;

    private interface Run {
        void go(PacketTrail t, int call);
    }

    public static void main(String[] args) {
        C.part("rule 12");
        due("new objects", (t, i) -> new PacketTrail());
        due("packets sent and taken back", (t, i) -> {
            if (i % 2 == 0) {
                t.undo();
            } else {
                t.send(0, 2, i, 1, 12);
            }
        });
        due("packets forgotten", (t, i) -> t.forget());
        due("texts", (t, i) -> Checks.tell(t, "hops 3;"));
        due("joined", (t, i) -> t.joined(4));
        due("matrix", (t, i) -> t.matrix(0, 1, 0));
        due("walks", (t, i) -> t.walk(0, 0, 0));
        due("estimates", (t, i) -> t.estimate(2, 0, 5));
        due("keys", (t, i) -> t.bestKey(5, 0));
        due("masks", (t, i) -> t.bestMask(0));
        due("labels", (t, i) -> t.leastLabels());
        C.finish();
    }

    private static void due(String what, Run run) {
        PacketTrail t = Checks.net("hops 3;link 0 1;link 1 0;link 1 2;route 0 2 1;route 1 2 0;base 997 990;labels 2;");
        for (int i = 0; i < 39; i++) {
            t.send(i % 2, 2, i, 1, 12);
        }
        com.sun.management.ThreadMXBean bean = (com.sun.management.ThreadMXBean) ManagementFactory.getThreadMXBean();
        long id = Thread.currentThread().getId();
        run.go(t, 0);
        long before = bean.getThreadAllocatedBytes(id);
        for (int call = 0; call < 512; call++) {
            run.go(t, call);
        }
        long used = bean.getThreadAllocatedBytes(id) - before;
        if (used > MOST) {
            C.complain(what + " made " + used + " bytes in 512 calls");
        }
    }
}
