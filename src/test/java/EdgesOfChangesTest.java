/** Promises 1 and 5 to 10, and the words of HOPS, LINKS, ROUTES, PACKETS and TRAILS: each sentence that names an edge. */
public final class EdgesOfChangesTest {
    private static final Checks C = new Checks();
    /** 0 to 1 to 2 for what is to go to 2; nothing leaves 2. */
    private static final String LINE = "hops 3;link 0 1;link 1 2;link 0 2;route 0 2 1;route 1 2 2;";
    private static final String ROUND = "hops 3;link 0 1;link 1 0;link 1 2;route 0 2 1;route 1 2 0;";

    public static void main(String[] args) {
        newObject();
        alikeEnds();
        leastAndMost();
        orderOfFates();
        lifeOnTheWay();
        goesRound();
        asAllIsWhenSent();
        numbersInOrder();
        forgetAll();
        linkOtherwise();
        routeFromNowOn();
        setFromNowOn();
        baseBesideRangeAndKey();
        undoNothing();
        undoEachKind();
        undoTwelve();
        undoAndChange();
        undoWithRefusals();
        undoOfNoChange();
        undoWithTape();
        undoFull();
        C.finish();
    }

    private static void trail(PacketTrail t, String what, int packet, int fate, int... hops) {
        C.due(what + ": fate", t.packet(packet, 5), fate);
        C.due(what + ": hops", t.packet(packet, 6), hops.length);
        for (int k = 0; k < hops.length; k++) {
            C.due(what + ": hop " + k, t.trail(packet, k, 0), hops[k]);
            C.due(what + ": life " + k, t.trail(packet, k, 2), t.packet(packet, 4) - k);
        }
        C.refused(what + ": no more", Checks.NO_ELEMENT, () -> t.trail(packet, hops.length, 0));
    }

    private static void newObject() {
        C.part("promise 1: two HOPS, no LINKS, ROUTES, PACKETS; all else as at first");
        PacketTrail t = new PacketTrail();
        C.dueAll("routes", new long[] {t.routeTold(0, 0), t.routeTold(0, 1), t.routeTold(1, 0), t.routeTold(1, 1)}, -1, -1, -1, -1);
        C.refused("a third hop", Checks.NO_ELEMENT, () -> t.routeTold(2, 0));
        C.refused("a link", Checks.NO_ELEMENT, () -> t.linkTold(0, 0));
        C.refused("a packet", Checks.NO_ELEMENT, () -> t.packet(0, 0));
        C.dueAll("settings", new long[] {t.told(3), t.told(4), t.told(5), t.told(6), t.told(7)}, 7, 101, 20, 0, 16);
        C.dueAll("nothing to take back, no tape", new long[] {t.told(8), t.told(9)}, 0, 0);
        C.dueAll("refusals", new long[] {t.status(0), t.status(1), t.status(2)}, 3, 0, 0);
        t.send(0, 1, 0, 1, 0);
        t.set(4, 2);
        PacketTrail other = new PacketTrail();
        C.dueAll("each for itself", new long[] {other.told(2), other.told(7), other.told(8), other.status(0)}, 0, 16, 0, 0);
        C.due("as a text that tells nothing", Witness.of(new PacketTrail()).equals(Witness.of(Checks.net("hops 2;"))) ? 1 : 0, 1);
    }

    private static void alikeEnds() {
        C.part("FROM and DEST: alike ones, too");
        PacketTrail t = Checks.net("hops 10;link 0 1;route 0 9 1;");
        for (int hop = 0; hop < 10; hop++) {
            C.due("sent", t.send(hop, hop, 0, 1, hop), hop);
            trail(t, "arrived at once", hop, 0, hop);
        }
    }

    private static void leastAndMost() {
        C.part("NUMBER 0 to 9,999, SIZE 1 to 200, LIFE 0 to 12");
        PacketTrail t = Checks.net("hops 10;");
        C.due("least", t.send(0, 0, 0, 1, 0), 0);
        C.due("most", t.send(9, 9, 9999, 200, 12), 1);
        long[][] want = {{0, 0, 0, 1, 0}, {9, 9, 9999, 200, 12}};
        for (int packet = 0; packet < 2; packet++) {
            for (int what = 0; what < 5; what++) {
                C.due("packet " + packet + " " + what, t.packet(packet, what), want[packet][what]);
            }
        }
        C.dueAll("labels", new long[] {t.packet(0, 7), t.packet(1, 7)}, 1, wideLabel(9, 9, 9999, 200) % 16);
    }

    private static long wideLabel(long from, long dest, long number, long size) {
        return (((from * 37 + dest) * 37 + number) * 37 + size) % 9973;
    }

    private static void orderOfFates() {
        C.part("TRAIL: ARRIVED, else STRAYED, else LOST, else SPENT");
        PacketTrail t = Checks.net("hops 3;link 0 1;link 1 2;cut 0 1;route 0 2 1;route 1 2 2;");
        t.send(0, 0, 0, 1, 0);
        trail(t, "arrived, though it has no life", 0, 0, 0);
        t.send(2, 0, 0, 1, 0);
        trail(t, "strayed, though it has no life", 1, 1, 2);
        t.send(0, 1, 0, 1, 0);
        trail(t, "strayed: a link, but no route by it", 2, 1, 0);
        t.send(0, 2, 0, 1, 0);
        trail(t, "lost, though it has no life", 3, 2, 0);
        t.send(0, 2, 0, 1, 12);
        trail(t, "lost with life", 4, 2, 0);
        t.send(1, 2, 0, 1, 0);
        trail(t, "spent", 5, 3, 1);
        t.send(1, 2, 0, 1, 1);
        trail(t, "arrived with its last life", 6, 0, 1, 2);
        t.link(0, 1);
        t.send(0, 2, 0, 1, 0);
        trail(t, "spent, no longer lost", 7, 3, 0);
        t.send(0, 2, 0, 1, 1);
        trail(t, "spent one link later", 8, 3, 0, 1);
        t.send(0, 2, 0, 1, 2);
        trail(t, "arrived", 9, 0, 0, 1, 2);
        t.route(0, 2, -1);
        t.send(0, 2, 0, 1, 0);
        trail(t, "strayed, no longer spent", 10, 1, 0);
        t.link(0, 0);
        t.send(0, 2, 0, 1, 0);
        trail(t, "strayed, though the link is cut", 11, 1, 0);
        t.link(1, 0);
        t.route(0, 2, 0);
        t.link(0, 1);
        t.send(0, 2, 0, 1, 1);
        trail(t, "lost at the second hop without life", 12, 2, 0, 1);
        C.dueAll("fates", new long[] {t.fates(0), t.fates(1), t.fates(2), t.fates(3)}, 3, 4, 3, 3);
    }

    private static void lifeOnTheWay() {
        C.part("it goes on by that LINK, its LIFE is 1 less");
        PacketTrail t = Checks.net("hops 10;link0 1;link1 2;link2 3;link3 4;link4 5;link5 6;link6 7;link7 8;link8 9;"
            + "route0 9 1;route1 9 2;route2 9 3;route3 9 4;route4 9 5;route5 9 6;route6 9 7;route7 9 8;route8 9 9;");
        for (int life = 0; life <= 12; life++) {
            int[] hops = new int[Math.min(life, 9) + 1];
            for (int k = 0; k < hops.length; k++) {
                hops[k] = k;
            }
            t.send(0, 9, 0, 1, life);
            trail(t, "life " + life, life, life < 9 ? 3 : 0, hops);
        }
    }

    private static void goesRound() {
        C.part("a TRAIL may go round");
        PacketTrail t = Checks.net(ROUND);
        t.send(0, 2, 0, 1, 12);
        trail(t, "as long as can be", 0, 3, 0, 1, 0, 1, 0, 1, 0, 1, 0, 1, 0, 1, 0);
        C.dueAll("links", new long[] {t.trail(0, 0, 1), t.trail(0, 1, 1), t.trail(0, 2, 1), t.trail(0, 11, 1), t.trail(0, 12, 1)}, -1, 0, 1, 0, 1);
        t.send(1, 2, 0, 1, 11);
        trail(t, "one less", 1, 3, 1, 0, 1, 0, 1, 0, 1, 0, 1, 0, 1, 0);
    }

    private static void asAllIsWhenSent() {
        C.part("TRAIL: as all is when it is SENT");
        PacketTrail t = Checks.net(LINE);
        t.send(0, 2, 0, 1, 5);
        t.link(0, 0);
        t.route(1, 2, -1);
        t.route(0, 2, 2);
        trail(t, "sent ahead", 0, 0, 0, 1, 2);
        C.due("its link", t.trail(0, 1, 1), 0);
        t.send(0, 2, 0, 1, 5);
        trail(t, "sent behind", 1, 0, 0, 2);
        C.due("its link", t.trail(1, 1, 1), 2);
        t.send(1, 2, 0, 1, 5);
        trail(t, "strayed now", 2, 1, 1);
    }

    private static void numbersInOrder() {
        C.part("PACKETS, numbered from 0 on in order (40 at most)");
        PacketTrail t = Checks.net(LINE);
        for (int i = 0; i < 40; i++) {
            C.due("number", t.send(i % 3, 2, 100 + i, 1 + i, i % 13), i);
            C.due("packets", t.told(2), i + 1);
        }
        C.refused("the 41st", Checks.STATE, () -> t.send(0, 2, 0, 1, 0));
        C.refused("there is none such", Checks.NO_ELEMENT, () -> t.packet(40, 0));
        for (int i = 0; i < 40; i++) {
            C.due("its own NUMBER", t.packet(i, 2), 100 + i);
            C.due("its own SIZE", t.packet(i, 3), 1 + i);
        }
    }

    private static void forgetAll() {
        C.part("promise 6: all PACKETS are forgotten: how many there were");
        PacketTrail t = Checks.net(LINE + "base 9 9;");
        C.due("none", t.forget(), 0);
        for (int i = 0; i < 40; i++) {
            t.send(0, 2, i, 1, 5);
        }
        t.link(2, 0);
        C.due("all 40", t.forget(), 40);
        C.due("none any more", t.forget(), 0);
        C.dueAll("no packets, no reports", new long[] {t.told(2), t.told(10), t.told(11), t.told(12), t.told(13)}, 0, 0, 0, 0, 0);
        C.dueAll("nothing of them", new long[] {t.label(0), t.print(), t.fates(0), t.estimate(3, 0, 2), t.matrix(0, 2, 2)}, -1, 0, 0, 0, 0);
        C.refused("the first", Checks.NO_ELEMENT, () -> t.packet(0, 0));
        C.refused("its trail", Checks.NO_ELEMENT, () -> t.trail(0, 0, 0));
        C.dueAll("the net stays", new long[] {t.told(0), t.told(1), t.linkTold(2, 2), t.routeTold(0, 2), t.told(4)}, 3, 3, 0, 0, 9);
        C.due("numbered from 0 on again", t.send(1, 2, 9, 9, 9), 0);
    }

    private static void linkOtherwise() {
        C.part("promise 7: UP (1), CUT (0) from now on: whether it was otherwise");
        PacketTrail t = Checks.net(LINE + "cut 1 2;");
        boolean[] was = {t.link(0, 1), t.link(0, 0), t.link(0, 0), t.link(0, 1), t.link(1, 0), t.link(1, 1), t.link(1, 1)};
        boolean[] want = {false, true, false, true, false, true, false};
        for (int i = 0; i < was.length; i++) {
            C.due("change " + i, was[i] ? 1 : 0, want[i] ? 1 : 0);
        }
        t.link(2, 0);
        C.dueAll("each for itself", new long[] {t.linkTold(0, 2), t.linkTold(1, 2), t.linkTold(2, 2)}, 1, 1, 0);
        C.due("counted, whether or not it was otherwise", t.told(8), 8);
        t.send(0, 2, 0, 1, 5);
        trail(t, "by what is up", 0, 0, 0, 1, 2);
    }

    private static void routeFromNowOn() {
        C.part("promise 8: ROUTE at a HOP for another one (a LINK, NONE: none): what it was (NONE)");
        PacketTrail t = Checks.net("hops 10;link 9 0;link 0 9;link 9 8;route 9 8 0;");
        C.due("as told", t.route(9, 8, 2), 0);
        C.due("as set", t.route(9, 8, 2), 2);
        C.due("to none", t.route(9, 8, -1), 2);
        C.due("from none", t.route(9, 8, -1), -1);
        C.due("from none to a link", t.route(9, 8, 0), -1);
        C.due("to its own end", t.route(9, 0, 0), -1);
        C.due("the first hop for the last", t.route(0, 9, 1), -1);
        C.dueAll("told", new long[] {t.routeTold(9, 8), t.routeTold(9, 0), t.routeTold(0, 9), t.routeTold(8, 9), t.routeTold(9, 7)}, 0, 0, 1, -1, -1);
        t.link(0, 0);
        C.due("a cut one, too", t.route(9, 7, 0), -1);
        t.send(9, 7, 0, 1, 1);
        trail(t, "lost there", 0, 2, 9);
    }

    private static void setFromNowOn() {
        C.part("promise 9: what it was");
        PacketTrail t = new PacketTrail();
        int[][] sets = {{0, 1, 7}, {0, 31, 1}, {1, 20, 101}, {1, 997, 20}, {2, 997, 20}, {2, 1, 997}, {1, 2, 997}, {2, 2, 1},
            {3, 1, 0}, {3, 0, 1}, {4, 2, 16}, {4, 64, 2}};
        for (int[] s : sets) {
            C.due("set " + s[0] + " to " + s[1], t.set(s[0], s[1]), s[2]);
            C.due("told", t.told(3 + s[0]), s[1]);
        }
        C.due("all can be taken back", t.told(8), 12);
        C.due("to what it is", t.set(4, 64), 64);
    }

    private static void baseBesideRangeAndKey() {
        C.part("promise 9: BASE is less than RANGE, or not above KEY");
        PacketTrail t = Checks.net("hops 2;base 30 10;key 20;");
        C.refused("as KEY", Checks.ARGUMENT, () -> t.set(1, 20));
        C.refused("between", Checks.ARGUMENT, () -> t.set(1, 15));
        C.refused("less than both", Checks.ARGUMENT, () -> t.set(1, 9));
        C.due("above KEY", t.set(1, 21), 30);
        C.due("KEY as high as can be", t.set(3, 20), 20);
        C.refused("KEY as BASE", Checks.ARGUMENT, () -> t.set(3, 21));
        t.set(2, 21);
        C.refused("RANGE above BASE", Checks.ARGUMENT, () -> t.set(2, 22));
        t.set(3, 0);
        C.refused("less than RANGE", Checks.ARGUMENT, () -> t.set(1, 20));
        C.due("as RANGE", t.set(1, 21), 21);
        t.set(2, 1);
        C.due("the least", t.set(1, 2), 21);
        C.due("refused", t.status(1), 6);
        C.dueAll("as set", new long[] {t.told(4), t.told(5), t.told(6)}, 2, 1, 0);
    }

    private static void undoNothing() {
        C.part("promise 10: NONE: none could");
        PacketTrail t = new PacketTrail();
        C.dueAll("new", new long[] {t.undo(), t.undo(), t.told(8)}, -1, -1, 0);
        t.set(4, 3);
        C.dueAll("one", new long[] {t.told(8), t.undo(), t.told(7), t.undo(), t.told(7)}, 1, 0, 16, -1, 16);
        t.set(4, 3);
        Checks.tell(t, "hops 2;labels 9;");
        C.dueAll("not behind a text", new long[] {t.undo(), t.told(7)}, -1, 9);
    }

    private static void undoEachKind() {
        C.part("promise 10: all is as ahead of the latest send(), forget(), link(), route(), set()");
        PacketTrail t = Checks.net(LINE);
        t.send(0, 2, 3, 4, 5);
        long print = t.print();
        t.send(0, 1, 6, 7, 8);
        C.dueAll("send", new long[] {t.undo(), t.told(2), t.print()}, 1, 1, print);
        t.forget();
        C.dueAll("forget", new long[] {t.undo(), t.told(2), t.print(), t.packet(0, 2)}, 1, 1, print, 3);
        t.link(2, 0);
        C.dueAll("link", new long[] {t.undo(), t.linkTold(2, 2)}, 1, 1);
        t.route(1, 0, 1);
        C.dueAll("route", new long[] {t.undo(), t.routeTold(1, 0)}, 1, -1);
        int[] values = {9, 50, 3, 60, 5};
        long[] were = {7, 101, 20, 0, 16};
        for (int what = 0; what < 5; what++) {
            t.set(what, values[what]);
            C.dueAll("set " + what, new long[] {t.undo(), t.told(3 + what)}, 1, were[what]);
        }
        t.forget();
        t.send(2, 2, 1, 1, 1);
        t.undo();
        C.dueAll("the send behind a forget", new long[] {t.told(2), t.undo(), t.told(2), t.packet(0, 2)}, 0, 1, 1, 3);
        C.dueAll("all of them", new long[] {t.undo(), t.told(2), t.undo()}, 0, 0, -1);
    }

    private static void undoTwelve() {
        C.part("promise 10: the latest 12 can be taken back");
        for (int changes = 11; changes <= 26; changes++) {
            PacketTrail t = new PacketTrail();
            for (int i = 1; i <= changes; i++) {
                t.set(3, i);
                C.due("can be taken back", t.told(8), Math.min(i, 12));
            }
            int back = Math.min(changes, 12);
            for (int i = 1; i <= back; i++) {
                C.due("still can", t.undo(), back - i);
                C.due("as ahead of it", t.told(6), changes - i);
                C.due("told", t.told(8), back - i);
            }
            C.due("none could", t.undo(), -1);
            C.due("as it was", t.told(6), changes - back);
        }
    }

    private static void undoAndChange() {
        C.part("promise 10: changes behind an undo()");
        PacketTrail t = new PacketTrail();
        for (int i = 1; i <= 14; i++) {
            t.set(3, i);
        }
        t.undo();
        t.undo();
        C.due("ten", t.told(8), 10);
        t.set(3, 90);
        t.set(3, 91);
        t.set(3, 92);
        C.due("twelve again", t.told(8), 12);
        long[] want = {91, 90, 12, 11, 10, 9, 8, 7, 6, 5, 4, 3};
        for (int i = 0; i < want.length; i++) {
            C.dueAll("back " + i, new long[] {t.undo(), t.told(6)}, 11 - i, want[i]);
        }
        C.due("none", t.undo(), -1);
    }

    private static void undoWithRefusals() {
        C.part("promise 10: refused calls are none to take back, and stay counted");
        PacketTrail t = Checks.net(LINE);
        t.set(4, 5);
        C.refused("set", Checks.ARGUMENT, () -> t.set(4, 1));
        C.refused("send", Checks.ARGUMENT, () -> t.send(3, 0, 0, 1, 0));
        C.refused("link", Checks.NO_ELEMENT, () -> t.link(3, 0) ? 1 : 0);
        C.refused("link", Checks.ARGUMENT, () -> t.link(0, 2) ? 1 : 0);
        C.refused("route", Checks.NO_ELEMENT, () -> t.route(0, 3, 0));
        C.refused("route", Checks.ARGUMENT, () -> t.route(0, 0, 0));
        C.dueAll("one to take back", new long[] {t.told(8), t.undo(), t.told(7), t.undo()}, 1, 0, 16, -1);
        C.dueAll("counted", new long[] {t.status(0), t.status(1), t.status(2)}, 2, 4, 0);
    }

    private static void undoOfNoChange() {
        C.part("promise 10: a call that leaves all as it was is the latest, too");
        PacketTrail t = Checks.net(LINE);
        t.set(4, 5);
        t.forget();
        t.link(0, 1);
        t.route(2, 0, -1);
        t.set(4, 5);
        C.due("five", t.told(8), 5);
        C.dueAll("back", new long[] {t.undo(), t.undo(), t.undo(), t.undo(), t.told(7), t.undo(), t.told(7)}, 4, 3, 2, 1, 5, 0, 16);
    }

    private static void undoWithTape() {
        C.part("promise 10: feed() and text() are none of these");
        PacketTrail t = new PacketTrail();
        t.set(4, 5);
        Checks.feed(t, "hops 7;             ");
        C.due("one", t.told(8), 1);
        C.due("taken back", t.undo(), 0);
        C.dueAll("the tape stays", new long[] {t.told(9), t.undo()}, 20, -1);
        t.set(4, 6);
        C.due("a fault", t.text(3), -9);
        C.dueAll("it is none to take back", new long[] {t.told(8), t.undo(), t.told(7), t.fault(), t.told(9)}, 1, 0, 16, 0, 0);
    }

    private static void undoFull() {
        C.part("promise 10: with 40 PACKETS");
        PacketTrail t = Checks.net(ROUND + "base 10 7;mask 16;");
        long[] prints = new long[41];
        for (int i = 0; i < 40; i++) {
            prints[i] = t.print();
            t.send(i % 2, 2, i, 1 + i, i % 13);
        }
        prints[40] = t.print();
        t.forget();
        C.dueAll("all 40 are back", new long[] {t.undo(), t.told(2), t.print()}, 11, 40, prints[40]);
        for (int left = 39; left >= 29; left--) {
            C.dueAll("one less", new long[] {t.undo(), t.told(2), t.print()}, left - 29, left, prints[left]);
        }
        C.dueAll("no more", new long[] {t.undo(), t.told(2), t.print()}, -1, 29, prints[29]);
        C.due("the next one", t.send(0, 2, 0, 1, 0), 29);
    }
}
