/**
 * Every call that can be refused, at each side of each of its arguments: the last value that is allowed, the first that
 * is not; which exception comes ahead of which; each is counted once, by its reason, and nothing else changes.
 */
public final class RefusalsTest {
    private static final Checks C = new Checks();
    private static final String GONE = Checks.NO_ELEMENT;
    private static final String ARG = Checks.ARGUMENT;
    private static final String STATE = Checks.STATE;

    public static void main(String[] args) {
        changes();
        settings();
        full();
        asked();
        walks();
        numbers();
        order();
        noRefusals();
        questions();
        nothingThere();
        mostThere();
        C.finish();
    }

    /** Four hops, five links, seven packets of all fates, twelve changes and more, a good text on the tape. */
    private static PacketTrail rich() {
        PacketTrail t = Checks.net("hops 4;link 0 1;link 1 0;link 1 2;link 2 3;link 3 0;route 0 2 1;route 1 2 0;"
            + "route 2 0 3;route 3 0 0;base 13 9;key 3;mask 20;labels 4;");
        t.send(0, 2, 1, 1, 12);
        t.send(2, 0, 2, 9, 5);
        t.send(1, 1, 9999, 200, 0);
        t.link(4, 0);
        t.send(2, 0, 2, 9, 5);
        t.send(3, 1, 4, 4, 4);
        t.route(1, 2, 2);
        t.send(0, 2, 1, 1, 12);
        t.set(3, 4);
        t.forget();
        t.undo();
        t.send(1, 2, 7, 70, 1);
        t.set(4, 5);
        t.route(0, 1, 0);
        t.link(3, 1);
        C.due("places", Checks.tell(t, "hops 3;x"), -9);
        t.feed(0x686f7073, 0x20353b6c, 0x696e6b34, 0x20303b20, 0x20202020);
        return t;
    }

    /** The 40 packets that there is room for. */
    private static PacketTrail filled() {
        PacketTrail t = Checks.net("hops 3;link 0 1;link 1 0;route 0 2 1;route 1 2 0;base 997 990;labels 2;");
        for (int i = 0; i < 40; i++) {
            t.send(i % 3, 2, i, 1, i % 13);
        }
        return t;
    }

    private static void range(String what, String exception, int low, int high, Witness.CallWith call) {
        Witness.range(C, what, exception, new int[] {low, high}, RefusalsTest::rich, call);
    }

    private static void refuses(String what, String exception, Witness.CallOn call) {
        Witness.refuses(C, what, exception, RefusalsTest::rich, call);
    }

    private static void changes() {
        C.part("promise 3");
        range("text", ARG, 0, 20, (t, v) -> t.text(v));
        C.part("promise 5");
        range("from", ARG, 0, 3, (t, v) -> t.send(v, 0, 0, 1, 0));
        range("dest", ARG, 0, 3, (t, v) -> t.send(0, v, 0, 1, 0));
        range("number", ARG, 0, 9999, (t, v) -> t.send(0, 1, v, 1, 0));
        range("size", ARG, 1, 200, (t, v) -> t.send(0, 1, 0, v, 0));
        range("life", ARG, 0, 12, (t, v) -> t.send(0, 1, 0, 1, v));
        C.part("promise 7");
        range("link", GONE, 0, 4, (t, v) -> t.link(v, 0) ? 1 : 0);
        range("up", ARG, 0, 1, (t, v) -> t.link(4, v) ? 1 : 0);
        C.part("promise 8");
        range("hop", GONE, 0, 3, (t, v) -> t.route(v, v == 1 ? 2 : 1, -1));
        range("dest", GONE, 0, 3, (t, v) -> t.route(1, v, -1));
        range("link of none, all or no link", GONE, -1, 4, (t, v) -> t.route(v == 4 ? 3 : 0, 1, v));
        refuses("the same hop", ARG, t -> t.route(0, 0, 0));
        refuses("the same hop, none", ARG, t -> t.route(3, 3, -1));
        refuses("a link that comes there", ARG, t -> t.route(1, 3, 0));
        refuses("a link of elsewhere", ARG, t -> t.route(0, 3, 3));
    }

    private static void settings() {
        C.part("promise 9");
        range("what", ARG, 0, 4, (t, v) -> t.set(v, 9));
        range("mask", ARG, 1, 31, (t, v) -> t.set(0, v));
        range("base, RANGE being 9", ARG, 9, 997, (t, v) -> t.set(1, v));
        range("range, BASE being 13", ARG, 1, 13, (t, v) -> t.set(2, v));
        range("key, BASE being 13", ARG, 0, 12, (t, v) -> t.set(3, v));
        range("labels", ARG, 2, 64, (t, v) -> t.set(4, v));
        Witness.Maker keyAbove = () -> Checks.net("hops 2;base 50 1;key 30;");
        Witness.range(C, "base, KEY being 30", ARG, new int[] {31, 997}, keyAbove, (t, v) -> t.set(1, v));
        Witness.Maker least = () -> Checks.net("hops 2;base 2 1;key 0;");
        Witness.range(C, "base, KEY being 0, RANGE 1", ARG, new int[] {2, 997}, least, (t, v) -> t.set(1, v));
        Witness.range(C, "range, BASE being 2", ARG, new int[] {1, 2}, least, (t, v) -> t.set(2, v));
        Witness.range(C, "key, BASE being 2", ARG, new int[] {0, 1}, least, (t, v) -> t.set(3, v));
        Witness.Maker most = () -> Checks.net("hops 2;base 997 997;key 996;");
        Witness.range(C, "base, KEY being 996", ARG, new int[] {997, 997}, most, (t, v) -> t.set(1, v));
        Witness.range(C, "range, BASE being 997", ARG, new int[] {1, 997}, most, (t, v) -> t.set(2, v));
        Witness.range(C, "key, BASE being 997", ARG, new int[] {0, 996}, most, (t, v) -> t.set(3, v));
    }

    private static void full() {
        C.part("promise 5, there are 40");
        Witness.refuses(C, "the 41st", STATE, RefusalsTest::filled, t -> t.send(0, 1, 0, 1, 0));
        Witness.refuses(C, "from ahead", ARG, RefusalsTest::filled, t -> t.send(3, 1, 0, 1, 0));
        Witness.refuses(C, "dest ahead", ARG, RefusalsTest::filled, t -> t.send(0, -1, 0, 1, 0));
        Witness.refuses(C, "number ahead", ARG, RefusalsTest::filled, t -> t.send(0, 1, 10000, 1, 0));
        Witness.refuses(C, "size ahead", ARG, RefusalsTest::filled, t -> t.send(0, 1, 0, 201, 0));
        Witness.refuses(C, "life ahead", ARG, RefusalsTest::filled, t -> t.send(0, 1, 0, 1, 13));
        PacketTrail t = filled();
        t.undo();
        C.due("room for one again", t.send(0, 1, 0, 1, 0), 39);
        C.refused("and no more", STATE, () -> t.send(0, 1, 0, 1, 0));
        t.forget();
        C.due("room for all again", t.send(0, 1, 0, 1, 0), 0);
        t.undo();
        t.undo();
        C.refused("taken back, none", STATE, () -> t.send(0, 1, 0, 1, 0));
        C.due("counted", t.status(2), 2);
    }

    private static void asked() {
        C.part("promise 11");
        range("told", ARG, 0, 13, (t, v) -> t.told(v));
        C.part("promise 12");
        range("link", GONE, 0, 4, (t, v) -> t.linkTold(v, 2));
        range("what", ARG, 0, 2, (t, v) -> t.linkTold(4, v));
        C.part("promise 13");
        range("hop", GONE, 0, 3, (t, v) -> t.routeTold(v, 0));
        range("dest", GONE, 0, 3, (t, v) -> t.routeTold(0, v));
        C.part("promise 14");
        range("packet", GONE, 0, 6, (t, v) -> t.packet(v, 0));
        range("what", ARG, 0, 8, (t, v) -> t.packet(6, v));
        C.part("promise 15");
        range("packet", GONE, 0, 6, (t, v) -> t.trail(v, 0, 0));
        range("place, LIFE being 12", GONE, 0, 12, (t, v) -> t.trail(0, v, 0));
        range("the only place", GONE, 0, 0, (t, v) -> t.trail(2, v, 0));
        range("what", ARG, 0, 4, (t, v) -> t.trail(0, 12, v));
        C.part("promise 16");
        range("label, M being 5", ARG, 0, 4, (t, v) -> t.reports(v, 0, -1));
        range("hop", GONE, 0, 3, (t, v) -> t.reports(0, v, -1));
        range("link", GONE, -1, 4, (t, v) -> t.reports(0, v == 0 ? 1 : 0, v));
        refuses("a link that leads elsewhere", ARG, t -> t.reports(0, 0, 0));
        C.part("promise 24");
        range("fate", ARG, 0, 3, (t, v) -> t.fates(v));
    }

    /** The label of the packet that arrived where it was sent: its one walk has no link. */
    private static int alone(PacketTrail t) {
        return t.packet(2, 7);
    }

    private static void walks() {
        C.part("promise 18");
        range("label, M being 5", ARG, 0, 4, (t, v) -> t.joints(v));
        C.part("promise 19");
        range("label, M being 5", ARG, 0, 4, (t, v) -> t.walk(v, 0, 0));
        Witness.Maker one = RefusalsTest::oneWalk;
        Witness.range(C, "what", ARG, new int[] {0, 3}, one, (t, v) -> t.walk(1, 0, v));
        for (int w = 1; w <= 3; w++) {
            int what = w;
            Witness.range(C, "k, what " + w, GONE, new int[] {0, 0}, one, (t, v) -> t.walk(1, v, what));
            Witness.refuses(C, "no walks, what " + w, GONE, one, t -> t.walk(0, 0, what));
        }
        C.part("promise 20");
        Witness.Maker noLink = () -> {
            PacketTrail t = Checks.net("hops 2;base 2 2;labels 2;");
            t.send(0, 0, 0, 1, 0);
            return t;
        };
        Witness.range(C, "i", GONE, new int[] {0, 1}, one, (t, v) -> t.walkAt(1, 0, v));
        Witness.range(C, "k", GONE, new int[] {0, 0}, one, (t, v) -> t.walkAt(1, v, 0));
        Witness.range(C, "label", ARG, new int[] {0, 1}, RefusalsTest::twoWalks, (t, v) -> t.walkAt(v, 0, 0));
        Witness.refuses(C, "a walk without links", GONE, noLink, t -> t.walkAt(1, 0, 0));
        Witness.refuses(C, "no walks", GONE, one, t -> t.walkAt(0, 0, 0));
        C.part("promise 21");
        range("what", ARG, 0, 4, (t, v) -> t.joined(v));
    }

    /** A walk 0, 1, 2 of label 1. */
    private static PacketTrail oneWalk() {
        PacketTrail t = Checks.net("hops 3;link 0 1;link 1 2;route 0 2 1;route 1 2 2;base 2 2;labels 2;");
        t.send(0, 2, 0, 1, 12);
        C.due("label", t.packet(0, 7), 1);
        return t;
    }

    /** The same walk of label 0, and of label 1. */
    private static PacketTrail twoWalks() {
        PacketTrail t = oneWalk();
        t.send(0, 2, 0, 2, 12);
        C.due("label", t.packet(1, 7), 0);
        return t;
    }

    private static void numbers() {
        C.part("promise 22");
        range("what", ARG, 0, 3, (t, v) -> t.estimate(v, 0, 0));
        range("part", ARG, 0, 6, (t, v) -> t.estimate(3, 0, v));
        range("hop", GONE, 0, 3, (t, v) -> t.estimate(0, v, 0));
        range("link", GONE, 0, 4, (t, v) -> t.estimate(1, v, 2));
        range("link of sizes", GONE, 0, 4, (t, v) -> t.estimate(2, v, 6));
        range("0", GONE, 0, 0, (t, v) -> t.estimate(3, v, 1));
        C.part("promise 23");
        range("from", GONE, 0, 3, (t, v) -> t.matrix(v, 0, 0));
        range("to", GONE, 0, 3, (t, v) -> t.matrix(0, v, 1));
        range("part", ARG, 0, 2, (t, v) -> t.matrix(0, 0, v));
        C.part("promise 26");
        range("n", ARG, 0, 10, (t, v) -> t.unlike(v, false));
        range("n, below", ARG, 0, 10, (t, v) -> t.unlike(v, true));
        C.part("promise 27");
        range("labels", ARG, 2, 64, (t, v) -> t.clashes(v));
        C.part("promise 28");
        range("least", ARG, 0, 40, (t, v) -> t.bestKey(v, 0));
        range("what", ARG, 0, 1, (t, v) -> t.bestKey(0, v));
        C.part("promise 29");
        range("what", ARG, 0, 1, (t, v) -> t.bestMask(v));
    }

    private static void order() {
        C.part("no such HOP, LINK, PACKET, place is ahead of others");
        refuses("link", GONE, t -> t.link(5, 2) ? 1 : 0);
        refuses("route, no such hop, a link of elsewhere", GONE, t -> t.route(4, 0, 0));
        refuses("route, no such hop twice", GONE, t -> t.route(4, 4, -1));
        refuses("route, no such dest, a link of elsewhere", GONE, t -> t.route(0, 4, 3));
        refuses("route, no such link, the same hop", GONE, t -> t.route(2, 2, 5));
        refuses("linkTold", GONE, t -> t.linkTold(-1, 3));
        refuses("packet", GONE, t -> t.packet(7, 9));
        refuses("trail, no such packet", GONE, t -> t.trail(7, 0, 5));
        refuses("trail, no such place", GONE, t -> t.trail(2, 1, 5));
        refuses("reports, no such hop, label", GONE, t -> t.reports(5, 4, -1));
        refuses("reports, no such link, label", GONE, t -> t.reports(-1, 0, 5));
        refuses("reports, no such hop, a link that leads elsewhere", GONE, t -> t.reports(0, 4, 0));
        refuses("matrix, from", GONE, t -> t.matrix(4, 0, 3));
        refuses("matrix, to", GONE, t -> t.matrix(0, -1, -1));
        C.part("here it is behind others");
        refuses("walk, label", ARG, t -> t.walk(5, -1, 1));
        refuses("walk, what", ARG, t -> t.walk(alone(t), 99, 4));
        refuses("walkAt, label", ARG, t -> t.walkAt(-1, -1, -1));
        refuses("estimate, what", ARG, t -> t.estimate(4, 9, 0));
        refuses("estimate, what below", ARG, t -> t.estimate(-1, -1, 0));
        refuses("estimate, part, no such hop", ARG, t -> t.estimate(0, 4, 7));
        refuses("estimate, part, no such link", ARG, t -> t.estimate(1, 5, -1));
        refuses("estimate, part, no such link of sizes", ARG, t -> t.estimate(2, 5, 7));
        refuses("estimate, part, not 0", ARG, t -> t.estimate(3, 1, 7));
    }

    private static void noRefusals() {
        C.part("answers that are no refusals");
        Witness.Maker fullTape = () -> {
            PacketTrail t = rich();
            for (int i = 0; i < 19; i++) {
                t.feed(0x20202020, 0x20202020, 0x20202020, 0x20202020, 0x20202020);
            }
            return t;
        };
        Witness.only(C, "a full tape", -1, fullTape, t -> t.feed(0, 0, 0, 0, 0));
        Witness.only(C, "nothing to take back", -1, PacketTrail::new, PacketTrail::undo);
        Witness.only(C, "label below 0", -1, RefusalsTest::rich, t -> t.label(-1));
        Witness.only(C, "label beyond all", -1, RefusalsTest::rich, t -> t.label(64));
        Witness.only(C, "a state that there is not", -1, RefusalsTest::rich, t -> t.status(3));
        Witness.only(C, "nor this", -1, RefusalsTest::rich, t -> t.status(-1));
        Witness.only(C, "no key", -1, RefusalsTest::rich, t -> t.bestKey(40, 0));
        PacketTrail t = rich();
        C.due("a fault is no refusal", t.text(6), -9);
        C.dueAll("refusals", new long[] {t.status(0), t.status(1), t.status(2)}, 0, 0, 0);
    }

    private static void questions() {
        C.part("asked, nothing stays changed");
        Witness.CallOn[] all = {
            PacketTrail::fault, t -> t.told(10), t -> t.told(12), t -> t.told(13), t -> t.linkTold(4, 2), t -> t.routeTold(0, 2),
            t -> t.packet(0, 8), t -> t.trail(0, 3, 4), t -> t.reports(1, 0, -1), t -> t.label(0), t -> t.joints(1),
            t -> t.walk(1, 0, 0), t -> t.joined(4), t -> t.estimate(1, 0, 0), t -> t.estimate(2, 1, 5), t -> t.matrix(0, 2, 0),
            t -> t.fates(3), PacketTrail::leastLabels, t -> t.unlike(9, true), t -> t.clashes(2), t -> t.bestKey(2, 1),
            t -> t.bestMask(1), PacketTrail::print, t -> t.status(0)};
        for (int i = 0; i < all.length; i++) {
            Witness.CallOn call = all[i];
            long first = call.answer(rich());
            Witness.only(C, "question " + i, first, RefusalsTest::rich, call);
            PacketTrail twice = rich();
            call.answer(twice);
            C.due("question " + i + " again", call.answer(twice), first);
        }
    }

    private static void nothingThere() {
        C.part("nothing there yet");
        Witness.Maker made = PacketTrail::new;
        Witness.refuses(C, "text of one byte", ARG, made, t -> t.text(1));
        Witness.refuses(C, "link", GONE, made, t -> t.link(0, 1) ? 1 : 0);
        Witness.refuses(C, "route", GONE, made, t -> t.route(0, 1, 0));
        Witness.refuses(C, "hop 2", GONE, made, t -> t.route(2, 1, -1));
        Witness.refuses(C, "linkTold", GONE, made, t -> t.linkTold(0, 0));
        Witness.refuses(C, "routeTold", GONE, made, t -> t.routeTold(1, 2));
        Witness.refuses(C, "packet", GONE, made, t -> t.packet(0, 0));
        Witness.refuses(C, "trail", GONE, made, t -> t.trail(0, 0, 0));
        Witness.refuses(C, "reports", GONE, made, t -> t.reports(0, 1, 0));
        Witness.refuses(C, "label 16", ARG, made, t -> t.reports(16, 1, -1));
        Witness.refuses(C, "walk", GONE, made, t -> t.walk(15, 0, 1));
        Witness.refuses(C, "walkAt", GONE, made, t -> t.walkAt(15, 0, 0));
        Witness.refuses(C, "estimate", GONE, made, t -> t.estimate(1, 0, 0));
        Witness.refuses(C, "matrix", GONE, made, t -> t.matrix(1, 2, 0));
        Witness.refuses(C, "send to 2", ARG, made, t -> t.send(0, 2, 0, 1, 0));
    }

    /** Ten hops, 24 links, 40 packets, 64 labels. */
    private static PacketTrail most() {
        StringBuilder s = new StringBuilder("hops 10;");
        for (int i = 0; i < 24; i++) {
            s.append("link").append(i % 10).append(' ').append((i % 10 + 1 + i / 10) % 10).append(';');
        }
        PacketTrail t = Checks.net(s.append("base 997 997;labels 64;").toString());
        for (int i = 0; i < 40; i++) {
            t.send(9, 9, i, 1, 0);
        }
        return t;
    }

    private static void mostRange(String what, String exception, int low, int high, Witness.CallWith call) {
        Witness.range(C, what, exception, new int[] {low, high}, RefusalsTest::most, call);
    }

    private static void mostThere() {
        C.part("no room left");
        mostRange("link", GONE, 0, 23, (t, v) -> t.link(v, 0) ? 1 : 0);
        mostRange("route at hop", GONE, 0, 9, (t, v) -> t.route(v, v == 0 ? 9 : 0, -1));
        mostRange("route for dest", GONE, 0, 9, (t, v) -> t.route(5, v, -1));
        mostRange("route by link", GONE, -1, 23, (t, v) -> t.route(v == 23 ? 3 : 0, 9, v));
        mostRange("linkTold", GONE, 0, 23, (t, v) -> t.linkTold(v, 0));
        mostRange("routeTold at", GONE, 0, 9, (t, v) -> t.routeTold(v, 9));
        mostRange("routeTold for", GONE, 0, 9, (t, v) -> t.routeTold(9, v));
        mostRange("packet", GONE, 0, 39, (t, v) -> t.packet(v, 8));
        mostRange("trail", GONE, 0, 39, (t, v) -> t.trail(v, 0, 3));
        mostRange("reports of a label", ARG, 0, 63, (t, v) -> t.reports(v, 9, -1));
        mostRange("reports at a hop", GONE, 0, 9, (t, v) -> t.reports(0, v, -1));
        mostRange("reports by a link", GONE, -1, 23, (t, v) -> t.reports(0, v == 23 ? 6 : 0, v));
        mostRange("joints", ARG, 0, 63, (t, v) -> t.joints(v));
        mostRange("walk", ARG, 0, 63, (t, v) -> t.walk(v, 0, 0));
        mostRange("estimate of a hop", GONE, 0, 9, (t, v) -> t.estimate(0, v, 0));
        mostRange("estimate of a link", GONE, 0, 23, (t, v) -> t.estimate(1, v, 5));
        mostRange("estimate of sizes", GONE, 0, 23, (t, v) -> t.estimate(2, v, 6));
        mostRange("matrix from", GONE, 0, 9, (t, v) -> t.matrix(v, 9, 0));
        mostRange("matrix to", GONE, 0, 9, (t, v) -> t.matrix(9, v, 2));
        Witness.refuses(C, "send from 10", ARG, RefusalsTest::most, t -> t.send(10, 9, 0, 1, 0));
        Witness.refuses(C, "send to 10", ARG, RefusalsTest::most, t -> t.send(9, 10, 0, 1, 0));
        Witness.refuses(C, "send", STATE, RefusalsTest::most, t -> t.send(9, 9, 0, 1, 0));
        PacketTrail t = most();
        t.forget();
        C.due("from 9 to 9", t.send(9, 9, 9999, 200, 12), 0);
    }
}
