/** Promises 11 to 17, 24, 30 and 31, and the words of FIELDS, MIX, LABEL and REPORTS: each sentence that names an edge. */
public final class EdgesOfAskingTest {
    private static final Checks C = new Checks();
    private static final String ROUND = "hops 3;link 0 1;link 1 0;link 1 2;route 0 2 1;route 1 2 0;";
    private static final String LINE = "hops 3;link 0 1;link 1 2;link 0 2;route 0 2 1;route 1 2 2;";

    public static void main(String[] args) {
        toldEmpty();
        toldFull();
        chosenAtSomeHops();
        chosenAtAllOrNone();
        linkToldEdges();
        routeToldEdges();
        packetEdges();
        chosenBelowRange();
        mixGoesRound();
        mixByMask();
        labelGoesRound();
        trailEdges();
        reportsEdges();
        reportsAsAsked();
        labelEdges();
        fatesEdges();
        printEdges();
        statusEdges();
        C.finish();
    }

    private static void toldEmpty() {
        C.part("promise 11: without PACKETS");
        PacketTrail t = Checks.net(LINE + "base 2 2;");
        C.dueAll("none", new long[] {t.told(2), t.told(10), t.told(11), t.told(12), t.told(13)}, 0, 0, 0, 0, 0);
    }

    private static void toldFull() {
        C.part("promise 11: with all that there is room for");
        PacketTrail t = Checks.net(ROUND + "base 2 2;labels 2;");
        for (int i = 0; i < 40; i++) {
            t.send(0, 2, 0, 1, 12);
        }
        // 40 trails of 13 hops; 40 alike make 40 * 39 / 2 pairs.
        C.dueAll("all chosen", new long[] {t.told(2), t.told(8), t.told(10), t.told(11), t.told(12), t.told(13)}, 40, 12, 520, 40, 0, 780);
        t.set(2, 1);
        t.set(0, 16);
        // MIX is LIFE modulo 2: 12, 10 and so on to 0 are chosen, seven of thirteen.
        C.dueAll("at some", new long[] {t.told(10), t.told(11), t.told(12), t.told(13)}, 280, 40, 40, 780);
        t.set(3, 1);
        C.dueAll("at the others", new long[] {t.told(10), t.told(11), t.told(12), t.told(13)}, 240, 0, 40, 0);
        for (int n = 20; n <= 400; n += 20) {
            t.feed(0, 0, 0, 0, 0);
            C.due("bytes", t.told(9), n);
        }
        t.feed(0, 0, 0, 0, 0);
        C.due("bytes", t.told(9), 400);
    }

    private static void chosenAtSomeHops() {
        C.part("promise 11: CHOSEN at some HOP of their TRAIL and at some not");
        PacketTrail t = Checks.net(LINE + "base 10 3;mask 16;");
        t.send(0, 0, 0, 1, 2);
        C.due("one hop, chosen", t.told(12), 0);
        t.send(0, 0, 0, 1, 3);
        C.due("one hop, not chosen", t.told(12), 0);
        t.send(0, 2, 0, 1, 2);
        C.due("2, 1, 0: at all", t.told(12), 0);
        t.send(0, 2, 0, 1, 5);
        C.due("5, 4, 3: at none", t.told(12), 0);
        t.send(0, 2, 0, 1, 4);
        C.due("4, 3, 2: at the last", t.told(12), 1);
        t.send(0, 2, 0, 1, 10);
        C.due("10, 9, 8: at the first", t.told(12), 2);
        t.set(3, 8);
        // MIX is LIFE less 2: 3 and 4 are chosen, and 2: now 5, 4, 3 and 4, 3, 2 at all or some.
        C.dueAll("reports", new long[] {t.packet(0, 8), t.packet(1, 8), t.packet(2, 8), t.packet(3, 8), t.packet(4, 8), t.packet(5, 8)}, 1, 1, 1, 2, 3, 0);
        C.dueAll("counts", new long[] {t.told(10), t.told(11), t.told(12)}, 8, 4, 2);
    }

    private static void chosenAtAllOrNone() {
        C.part("if these do not change on the way, it is so at all hops or at none");
        PacketTrail t = Checks.net(ROUND + "base 7 3;mask 15;");
        for (int i = 0; i < 20; i++) {
            t.send(i % 2, 2, i, 1 + i, i % 13);
            int chosen = t.packet(i, 8);
            C.due("all or none", chosen == 0 || chosen == i % 13 + 1 ? 1 : 0, 1);
        }
        C.due("none at some", t.told(12), 0);
        C.due("some at all", t.told(10) > 0 && t.told(11) < 20 ? 1 : 0, 1);
    }

    private static void linkToldEdges() {
        C.part("promise 12");
        PacketTrail t = Checks.net("hops 10;link 9 0;");
        C.dueAll("the only one", new long[] {t.linkTold(0, 0), t.linkTold(0, 1), t.linkTold(0, 2)}, 9, 0, 1);
        t.link(0, 0);
        C.dueAll("cut", new long[] {t.linkTold(0, 0), t.linkTold(0, 1), t.linkTold(0, 2)}, 9, 0, 0);
        t.undo();
        C.due("up again", t.linkTold(0, 2), 1);
    }

    private static void routeToldEdges() {
        C.part("promise 13: (NONE; of the same NONE)");
        PacketTrail t = Checks.net("hops 10;link 9 0;link 0 9;route 9 0 0;route 0 9 9;route 0 8 9;");
        C.dueAll("told", new long[] {t.routeTold(9, 0), t.routeTold(0, 9), t.routeTold(0, 8)}, 0, 1, 1);
        for (int hop = 0; hop < 10; hop++) {
            C.due("the same", t.routeTold(hop, hop), -1);
            C.due("none", t.routeTold(hop, hop == 5 ? 6 : 5), -1);
        }
        C.due("no refusals", t.status(0) + t.status(1), 0);
    }

    private static void packetEdges() {
        C.part("promise 14");
        PacketTrail t = Checks.net(ROUND + "base 13 12;mask 16;labels 64;");
        t.send(0, 2, 9999, 200, 12);
        // LIFE 12 is 12, not below 12; all others are.
        long[] first = {0, 2, 9999, 200, 12, 3, 13, ((2 * 37 + 9999) * 37 + 200) % 9973 % 64, 12};
        t.send(2, 2, 0, 1, 0);
        long[] second = {2, 2, 0, 1, 0, 0, 1, ((2 * 37 + 2) * 37 * 37 + 1) % 9973 % 64, 1};
        t.send(2, 0, 0, 1, 12);
        long[] third = {2, 0, 0, 1, 12, 1, 1, (2 * 37 * 37 * 37 + 1) % 9973 % 64, 0};
        for (int what = 0; what <= 8; what++) {
            C.due("the longest, " + what, t.packet(0, what), first[what]);
            C.due("the shortest, " + what, t.packet(1, what), second[what]);
            C.due("not chosen, " + what, t.packet(2, what), third[what]);
        }
    }

    private static void chosenBelowRange() {
        C.part("it is CHOSEN there, if MIX is less than R");
        PacketTrail t = Checks.net("hops 2;base 10 1;mask 4;");
        for (int number = 0; number < 10; number++) {
            t.send(0, 0, number, 1, 0);
        }
        for (int range = 1; range <= 10; range++) {
            t.set(2, range);
            C.due("as many as RANGE", t.told(10), range);
            C.due("the last", t.trail(range - 1, 0, 4), 1);
            if (range < 10) {
                C.due("the first not", t.trail(range, 0, 4), 0);
            }
        }
        C.due("all by RANGE as BASE", t.told(11), 10);
    }

    private static void mixGoesRound() {
        C.part("MIX: modulo A; in the end KEY is added, modulo A");
        PacketTrail t = Checks.net("hops 2;base 997 1;mask 4;");
        t.send(0, 0, 996, 1, 0);
        t.send(0, 0, 997, 1, 0);
        t.send(0, 0, 9999, 1, 0);
        C.dueAll("NUMBERS", new long[] {t.trail(0, 0, 3), t.trail(1, 0, 3), t.trail(2, 0, 3)}, 996, 0, 29);
        C.dueAll("chosen", new long[] {t.trail(0, 0, 4), t.trail(1, 0, 4), t.trail(2, 0, 4)}, 0, 1, 0);
        t.set(3, 1);
        C.dueAll("by KEY 1", new long[] {t.trail(0, 0, 3), t.trail(1, 0, 3), t.trail(2, 0, 3)}, 0, 1, 30);
        C.dueAll("chosen", new long[] {t.trail(0, 0, 4), t.trail(1, 0, 4), t.trail(2, 0, 4)}, 1, 0, 0);
        t.set(3, 996);
        C.dueAll("by KEY 996", new long[] {t.trail(0, 0, 3), t.trail(1, 0, 3), t.trail(2, 0, 3)}, 995, 996, 28);
        t.set(3, 968);
        C.dueAll("by KEY 968", new long[] {t.trail(0, 0, 3), t.trail(1, 0, 3), t.trail(2, 0, 3)}, 967, 968, 0);
        t.set(3, 0);
        t.set(1, 2);
        C.dueAll("by the least BASE", new long[] {t.trail(0, 0, 3), t.trail(1, 0, 3), t.trail(2, 0, 3)}, 0, 1, 1);
        t.set(3, 1);
        C.dueAll("and KEY 1", new long[] {t.trail(0, 0, 3), t.trail(1, 0, 3), t.trail(2, 0, 3)}, 1, 0, 0);
    }

    private static void mixByMask() {
        C.part("MIX: of the FIELDS of MASK in their order");
        PacketTrail t = Checks.net("hops 10;link 8 9;route 8 7 9;base 997 1;");
        t.send(8, 7, 654, 32, 1);
        int[] single = {1, 2, 4, 8, 16};
        long[] want = {8, 7, 654, 32, 1};
        for (int i = 0; i < 5; i++) {
            t.set(0, single[i]);
            C.due("one field, mask " + single[i], t.trail(0, 0, 3), want[i]);
            C.due("at the next hop, mask " + single[i], t.trail(0, 1, 3), i == 4 ? 0 : want[i]);
        }
        t.set(0, 31);
        C.due("all", t.trail(0, 0, 3), ((((8 * 31 + 7) * 31 + 654) * 31L + 32) * 31 + 1) % 997);
        C.due("all, at the next hop", t.trail(0, 1, 3), ((((8 * 31 + 7) * 31 + 654) * 31L + 32) * 31) % 997);
        t.set(0, 30);
        C.due("all but FROM", t.trail(0, 0, 3), (((7 * 31 + 654) * 31L + 32) * 31 + 1) % 997);
        t.set(0, 15);
        C.due("all but LIFE", t.trail(0, 1, 3), (((8 * 31 + 7) * 31 + 654) * 31L + 32) % 997);
        t.set(0, 17);
        C.due("FROM and LIFE", t.trail(0, 0, 3), 8 * 31 + 1);
        C.due("FROM and LIFE 0", t.trail(0, 1, 3), 8 * 31);
    }

    private static void labelGoesRound() {
        C.part("LABEL: modulo 9,973; that modulo M");
        PacketTrail t = Checks.net("hops 2;labels 64;");
        // 37 * 269 is 9,953: with SIZE 19 it is 9,972, with SIZE 20 it is 9,973, that is 0.
        t.send(0, 0, 269, 19, 0);
        t.send(0, 0, 269, 20, 0);
        t.send(0, 0, 269, 21, 0);
        t.send(0, 0, 9973, 20, 0);
        C.dueAll("of 64", labels(t, 4), 9972 % 64, 0, 1, 20);
        t.set(4, 2);
        C.dueAll("of 2", labels(t, 4), 0, 0, 1, 0);
        t.set(4, 63);
        C.dueAll("of 63", labels(t, 4), 9972 % 63, 0, 1, 20);
        t.send(1, 1, 9999, 200, 0);
        C.due("all fields", t.packet(4, 7), (((37 + 1) * 37 + 9999) * 37 + 200) % 9973 % 63);
        t.set(0, 1);
        t.set(3, 100);
        C.dueAll("whatever MASK and KEY", labels(t, 4), 9972 % 63, 0, 1, 20);
    }

    private static long[] labels(PacketTrail t, int count) {
        long[] all = new long[count];
        for (int i = 0; i < count; i++) {
            all[i] = t.packet(i, 7);
        }
        return all;
    }

    private static void trailEdges() {
        C.part("promise 15: of the k-th HOP of a TRAIL");
        PacketTrail t = Checks.net(ROUND + "base 13 1;mask 16;");
        t.send(1, 2, 0, 1, 12);
        long[][] want = {{1, -1, 12, 12, 0}, {0, 1, 11, 11, 0}, {1, 0, 10, 10, 0}};
        for (int k = 0; k < 3; k++) {
            for (int what = 0; what < 5; what++) {
                C.due("hop " + k + ", " + what, t.trail(0, k, what), want[k][what]);
            }
        }
        C.dueAll("the 12th", new long[] {t.trail(0, 12, 0), t.trail(0, 12, 1), t.trail(0, 12, 2), t.trail(0, 12, 3), t.trail(0, 12, 4)}, 1, 0, 0, 0, 1);
        C.refused("the 13th", Checks.NO_ELEMENT, () -> t.trail(0, 13, 0));
        C.refused("ahead of all", Checks.NO_ELEMENT, () -> t.trail(0, -1, 0));
    }

    private static void reportsEdges() {
        C.part("promise 16: at a HOP, by a LINK that leads there (NONE: that ENTERED)");
        PacketTrail t = Checks.net(ROUND + "base 2 2;labels 2;");
        C.dueAll("without packets", new long[] {t.reports(0, 0, -1), t.reports(1, 0, 1), t.reports(1, 2, 2)}, 0, 0, 0);
        for (int i = 0; i < 40; i++) {
            t.send(0, 2, 0, 1, 12);
        }
        // LABEL: 2 * 37 * 37 + 1 is 2,739, odd.
        C.dueAll("40 of them", new long[] {t.reports(1, 0, -1), t.reports(1, 1, 0), t.reports(1, 0, 1)}, 40, 240, 240);
        C.dueAll("none of these", new long[] {t.reports(1, 1, -1), t.reports(1, 2, -1), t.reports(1, 2, 2), t.reports(0, 0, -1), t.reports(0, 1, 0)}, 0, 0, 0, 0, 0);
        t.set(4, 64);
        C.dueAll("of 64 labels", new long[] {t.reports(2739 % 64, 1, 0), t.reports(63, 1, 0), t.reports(0, 1, 0)}, 240, 0, 0);
        t.set(4, 51);
        C.dueAll("of 51 labels", new long[] {t.reports(2739 % 51, 1, 0), t.reports(50, 1, 0)}, 240, 0);
        C.refused("label 51", Checks.ARGUMENT, () -> t.reports(51, 1, 0));
    }

    private static void reportsAsAsked() {
        C.part("REPORTS: by MASK, BASE, RANGE, KEY, M as they are when it is asked; by TRAILS as they were");
        PacketTrail t = Checks.net(LINE + "base 10 10;mask 16;labels 2;");
        t.send(0, 2, 0, 1, 9);
        C.dueAll("all", new long[] {t.reports(1, 0, -1), t.reports(1, 1, 0), t.reports(1, 2, 1)}, 1, 1, 1);
        t.set(2, 8);
        C.dueAll("by RANGE", new long[] {t.reports(1, 0, -1), t.reports(1, 1, 0), t.reports(1, 2, 1)}, 0, 0, 1);
        t.set(3, 1);
        C.dueAll("by KEY", new long[] {t.reports(1, 0, -1), t.reports(1, 1, 0), t.reports(1, 2, 1)}, 1, 0, 0);
        t.set(1, 9);
        C.dueAll("by BASE", new long[] {t.reports(1, 0, -1), t.reports(1, 1, 0), t.reports(1, 2, 1)}, 1, 1, 0);
        t.set(0, 1);
        C.dueAll("by MASK", new long[] {t.reports(1, 0, -1), t.reports(1, 1, 0), t.reports(1, 2, 1)}, 1, 1, 1);
        t.set(4, 3);
        C.dueAll("by M", new long[] {t.reports(1, 0, -1), t.reports(0, 1, 0), t.reports(2739 % 3, 2, 1)}, 0, 1, 1);
        t.link(0, 0);
        t.route(0, 2, 2);
        C.dueAll("the trail as it was", new long[] {t.reports(0, 1, 0), t.reports(0, 2, 1), t.reports(0, 2, 2)}, 1, 1, 0);
    }

    private static void labelEdges() {
        C.part("promise 17: the k-th; NONE: there are not so many, or k is below 0");
        PacketTrail t = Checks.net("hops 2;base 2 1;mask 4;labels 64;");
        C.dueAll("none", new long[] {t.label(0), t.label(-1), t.label(1)}, -1, -1, -1);
        t.send(0, 0, 1, 5, 0);
        C.dueAll("none chosen", new long[] {t.label(0), t.label(-1)}, -1, -1);
        for (int size = 39; size >= 1; size--) {
            t.send(0, 0, 0, size + 24, 0);
        }
        for (int k = 0; k < 39; k++) {
            C.due("label", t.label(k), 25 + k);
        }
        C.dueAll("no more", new long[] {t.label(39), t.label(40), t.label(63), t.label(64), t.label(Integer.MAX_VALUE)}, -1, -1, -1, -1, -1);
        C.dueAll("below 0", new long[] {t.label(-1), t.label(-2), t.label(Integer.MIN_VALUE)}, -1, -1, -1);
        t.set(4, 2);
        C.dueAll("two labels", new long[] {t.label(0), t.label(1), t.label(2)}, 0, 1, -1);
        C.due("no refusals", t.status(0) + t.status(1) + t.status(2), 0);
        PacketTrail later = Checks.net(LINE + "base 10 1;mask 16;");
        later.send(0, 2, 0, 1, 2);
        C.dueAll("chosen at the last hop alone", new long[] {later.label(0), later.label(1)}, 2739 % 16, -1);
    }

    private static void fatesEdges() {
        C.part("promise 24");
        PacketTrail t = Checks.net(ROUND);
        C.dueAll("none", new long[] {t.fates(0), t.fates(1), t.fates(2), t.fates(3)}, 0, 0, 0, 0);
        for (int i = 0; i < 40; i++) {
            t.send(0, 2, i, 1, i % 13);
        }
        C.dueAll("all spent", new long[] {t.fates(0), t.fates(1), t.fates(2), t.fates(3)}, 0, 0, 0, 40);
        t.link(0, 0);
        t.route(0, 2, -1);
        C.dueAll("as they were", new long[] {t.fates(0), t.fates(1), t.fates(2), t.fates(3)}, 0, 0, 0, 40);
        t.undo();
        t.undo();
        t.undo();
        C.due("one less", t.fates(3), 39);
        t.send(2, 2, 0, 1, 0);
        C.dueAll("one of another", new long[] {t.fates(0), t.fates(1), t.fates(2), t.fates(3)}, 1, 0, 0, 39);
    }

    private static void printEdges() {
        C.part("promise 30: of all PACKETS; 16 if it is CHOSEN there");
        PacketTrail t = Checks.net("hops 10;base 2 1;mask 4;");
        C.due("none", t.print(), 0);
        t.send(0, 0, 1, 1, 0);
        C.due("arrived at 0, not chosen", t.print(), 0);
        t.send(9, 9, 0, 1, 0);
        C.due("arrived at 9, chosen", t.print(), 25);
        t.send(9, 0, 1, 1, 0);
        C.due("strayed at 9, not chosen", t.print(), (25L * 31 + 1) * 31 + 9);
        t.set(3, 1);
        C.due("by another key", t.print(), (((16L * 31 + 0) * 31 + 9) * 31 + 1) * 31 + 25);
        PacketTrail full = Checks.net(ROUND + "base 10 5;mask 16;");
        long want = 0;
        for (int i = 0; i < 40; i++) {
            full.send(0, 2, i, 1, i % 13);
            want = want * 31 + 3;
            for (int life = i % 13; life >= 0; life--) {
                want = want * 31 + (i % 13 - life) % 2 + (life % 10 < 5 ? 16 : 0);
            }
            C.due("goes round beyond a long", full.print(), want);
        }
    }

    private static void statusEdges() {
        C.part("promise 31: NONE for others");
        PacketTrail t = Checks.net("hops 2;");
        C.dueAll("none refused", new long[] {t.status(0), t.status(1), t.status(2)}, 0, 0, 0);
        for (int what : new int[] {-1, 3, -2, 4, 100, Integer.MIN_VALUE, Integer.MAX_VALUE}) {
            C.due("others " + what, t.status(what), -1);
        }
        for (int i = 1; i <= 30; i++) {
            C.refused("no link", Checks.NO_ELEMENT, () -> t.linkTold(0, 0));
            C.refused("no what", Checks.ARGUMENT, () -> t.told(14));
            C.refused("no fate", Checks.ARGUMENT, () -> t.fates(4));
            C.dueAll("counted", new long[] {t.status(0), t.status(1), t.status(2)}, i, 2 * i, 0);
        }
        for (int i = 0; i < 40; i++) {
            t.send(0, 0, 0, 1, 0);
        }
        for (int i = 1; i <= 10; i++) {
            C.refused("full", Checks.STATE, () -> t.send(0, 0, 0, 1, 0));
            C.dueAll("counted", new long[] {t.status(0), t.status(1), t.status(2)}, 30, 60, i);
        }
        t.undo();
        t.forget();
        Checks.tell(t, "hops 3;");
        C.dueAll("stay counted", new long[] {t.status(0), t.status(1), t.status(2)}, 30, 60, 10);
    }
}
