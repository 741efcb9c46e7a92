import java.util.ArrayList;
import java.util.List;

/**
 * All that an object can tell of itself, to see that a call has left it as it was. Taking it uses the object up: in the
 * end all is taken back and the tape is read, so that these are seen, too. It stays well below 512 calls.
 */
final class Witness {
    /** Makes an object, always in the same state. */
    interface Maker {
        PacketTrail make();
    }

    /** A call on an object. */
    interface CallOn {
        long answer(PacketTrail t);
    }

    /** A call on an object with an argument. */
    interface CallWith {
        long answer(PacketTrail t, int v);
    }

    private static final int DETAILED = 6;

    private final List<Long> seen = new ArrayList<>();

    static List<Long> of(PacketTrail t) {
        Witness w = new Witness();
        w.seen.add((long) t.fault());
        w.net(t);
        w.packets(t);
        w.walks(t);
        w.numbers(t);
        w.past(t);
        w.tape(t);
        return w.seen;
    }

    private void net(PacketTrail t) {
        for (int what = 0; what <= 13; what++) seen.add((long) t.told(what));
        int links = t.told(1);
        for (int link = 0; link < links; link++) {
            for (int what = 0; what <= 2; what++) seen.add((long) t.linkTold(link, what));
        }
        int hops = Math.min(DETAILED, t.told(0));
        for (int hop = 0; hop < hops; hop++) {
            for (int dest = 0; dest < hops; dest++) seen.add((long) t.routeTold(hop, dest));
        }
    }

    private void packets(PacketTrail t) {
        int packets = Math.min(DETAILED, t.told(2));
        for (int packet = 0; packet < packets; packet++) {
            for (int what = 0; what <= 8; what++) seen.add((long) t.packet(packet, what));
        }
        for (int fate = 0; fate <= 3; fate++) seen.add((long) t.fates(fate));
        seen.add(t.print());
    }

    private void walks(PacketTrail t) {
        int labels = Math.min(DETAILED, t.told(7));
        for (int label = 0; label < labels; label++) {
            seen.add((long) t.label(label));
            seen.add((long) t.joints(label));
            seen.add((long) t.walk(label, 0, 0));
        }
        for (int what = 0; what <= 4; what++) seen.add((long) t.joined(what));
        seen.add(t.matrix(0, 1, 0));
    }

    private void numbers(PacketTrail t) {
        for (int part = 0; part <= 6; part++) seen.add(t.estimate(3, 0, part));
        seen.add((long) t.leastLabels());
        seen.add(t.unlike(3, false));
        seen.add((long) t.clashes(3));
        seen.add((long) t.bestKey(1, 0));
        seen.add((long) t.bestMask(0));
    }

    private void past(PacketTrail t) {
        int links = Math.min(DETAILED, t.told(1));
        for (int left = t.undo(); left >= 0; left = t.undo()) {
            seen.add((long) left);
            seen.add(t.print());
            for (int what = 2; what <= 7; what++) seen.add((long) t.told(what));
            for (int link = links / 2; link < links; link++) seen.add((long) t.linkTold(link, 2));
            seen.add((long) t.routeTold(0, 1));
        }
    }

    private void tape(PacketTrail t) {
        seen.add((long) t.text(t.told(9)));
        seen.add((long) t.fault());
        seen.add((long) t.told(0));
        int links = Math.min(DETAILED, t.told(1));
        for (int link = 0; link < links; link++) seen.add((long) t.linkTold(link, 1));
    }

    private static long[] refusals(PacketTrail t) {
        return new long[] {t.status(0), t.status(1), t.status(2)};
    }

    /** The call throws this exception, is counted once and by its reason alone, and leaves all as it was. */
    static void refuses(Checks c, String what, String exception, Maker maker, CallOn call) {
        PacketTrail t = maker.make();
        long[] want = refusals(t);
        int reason = exception.equals(Checks.NO_ELEMENT) ? 0 : exception.equals(Checks.ARGUMENT) ? 1 : 2;
        want[reason]++;
        c.refused(what, exception, () -> call.answer(t));
        c.dueAll(what + ": refusals", refusals(t), want);
        List<Long> was = of(maker.make());
        List<Long> is = of(t);
        c.due(what + ": what there was " + was + ", is now " + is + "; alike", was.equals(is) ? 1 : 0, 1);
    }

    /** The call answers this, is not counted as refused, and leaves all as it was. */
    static void only(Checks c, String what, long answer, Maker maker, CallOn call) {
        PacketTrail t = maker.make();
        long[] want = refusals(t);
        c.due(what, call.answer(t), answer);
        c.dueAll(what + ": refusals", refusals(t), want);
        List<Long> was = of(maker.make());
        List<Long> is = of(t);
        c.due(what + ": what there was " + was + ", is now " + is + "; alike", was.equals(is) ? 1 : 0, 1);
    }

    /** From low to high the call answers; beside them, and far from them, it is refused. */
    static void range(Checks c, String what, String exception, int[] lowHigh, Maker maker, CallWith call) {
        int low = lowHigh[0];
        int high = lowHigh[1];
        for (int v : new int[] {low, high}) {
            PacketTrail t = maker.make();
            String got = Checks.outcome(() -> call.answer(t, v));
            if (got.endsWith("Exception")) {
                c.complain(what + " with " + v + " answered " + got + ", but it is allowed");
            }
        }
        for (int v : new int[] {low - 1, high + 1, Integer.MIN_VALUE, Integer.MAX_VALUE}) {
            refuses(c, what + " with " + v, exception, maker, t -> call.answer(t, v));
        }
    }
}
