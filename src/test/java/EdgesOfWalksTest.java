/** Promises 18 to 21, the half of 23 that is of WALKS, and the words of JOINED: each sentence that names an edge. */
public final class EdgesOfWalksTest {
    private static final Checks C = new Checks();
    private static final String GONE = Checks.NO_ELEMENT;
    private static final int UNKNOWN = -2;
    private static final int BROKEN = -3;
    /** All are CHOSEN everywhere. */
    private static final String ALL = "base 2 2;labels 2;";
    /** MIX is LIFE: a PACKET is CHOSEN where it has less than ten left. */
    private static final String BY_LIFE = "base 20 10;mask 16;labels 2;";
    private static final String LINE = "hops 3;link 0 1;link 1 2;link 0 2;route 0 2 1;route 1 2 2;route 0 1 1;";
    private static final String ROUND = "hops 3;link 0 1;link 1 0;route 0 2 1;route 1 2 0;";
    /** From 1 to 2 and to 3; nothing leaves 0, 2 and 3, but for what comes from 4, at which nobody enters. */
    private static final String FORK = "hops 5;link 1 2;link 1 3;link 4 1;route 1 2 2;route 1 3 3;route 4 1 1;";

    public static void main(String[] args) {
        noReports();
        enteredAlone();
        byLinksAlone();
        linkThatDoesNotLeave();
        oneWholeTrail();
        setsThatAreAlike();
        endsFirst();
        byNumberOfLink();
        leastHopFirst();
        notAheadOfTheWalkBefore();
        aheadByItsFirstHop();
        fortyAlike();
        stepsOfAFork();
        fiveThousandSteps();
        brokenOrUnknown();
        allThatThereCanBe();
        setsOfOtherReports();
        whateverK();
        placesOfWalks();
        placesWithoutSet();
        joinedCounts();
        joinedToTrails();
        joinedWithoutPackets();
        lastLabel();
        matrixOfSureWalks();
        matrixOfUnsureWalks();
        matrixInLowestTerms();
        C.finish();
    }

    /** Sends a PACKET with the LABEL, by the SIZE that gives it. */
    private static int send(PacketTrail t, int from, int dest, int life, int label) {
        int size = 1;
        while (((from * 37L + dest) * 37 * 37 + size) % 9973 % t.told(7) != label) {
            size++;
        }
        int packet = t.send(from, dest, 0, size, life);
        C.due("label of the test's own packet", t.packet(packet, 7), label);
        return packet;
    }

    private static void send(PacketTrail t, int times, int from, int dest, int life, int label) {
        for (int i = 0; i < times; i++) {
            send(t, from, dest, life, label);
        }
    }

    /** The first set of LABEL 0: of each WALK its first HOP, its LINKS, and its last HOP behind a -1. */
    private static void first(String what, PacketTrail t, int[]... walks) {
        C.due(what + ": walks", t.walk(0, 0, 0), walks.length);
        for (int k = 0; k < walks.length; k++) {
            int[] walk = walks[k];
            int links = walk.length - 3;
            C.due(what + ": first hop of " + k, t.walk(0, k, 1), walk[0]);
            C.due(what + ": links of " + k, t.walk(0, k, 2), links);
            for (int i = 0; i < links; i++) {
                C.due(what + ": link " + i + " of " + k, t.walkAt(0, k, i), walk[i + 1]);
            }
            C.due(what + ": last hop of " + k, t.walk(0, k, 3), walk[links + 2]);
            int walkNumber = k;
            C.refused(what + ": no more links of " + k, GONE, () -> t.walkAt(0, walkNumber, links));
        }
        C.refused(what + ": no more walks", GONE, () -> t.walk(0, walks.length, 1));
        C.refused(what + ": no more walks' links", GONE, () -> t.walkAt(0, walks.length, 0));
    }

    private static int[] walk(int... hopLinksEnd) {
        return hopLinksEnd;
    }

    private static long[] joined(PacketTrail t) {
        return new long[] {t.joined(0), t.joined(1), t.joined(2), t.joined(3), t.joined(4)};
    }

    private static void noReports() {
        C.part("JOINTS: without REPORTS 1, without WALKS");
        PacketTrail made = new PacketTrail();
        for (int label = 0; label < 16; label++) {
            C.dueAll("a new object", new long[] {made.joints(label), made.walk(label, 0, 0)}, 1, 0);
        }
        PacketTrail t = Checks.net(LINE + BY_LIFE);
        send(t, 0, 2, 12, 0);
        C.dueAll("a packet that is chosen nowhere", new long[] {t.told(10), t.joints(0), t.walk(0, 0, 0)}, 0, 1, 0);
        C.refused("no walk", GONE, () -> t.walk(0, 0, 1));
        C.refused("no link", GONE, () -> t.walkAt(0, 0, 0));
        send(t, 0, 2, 5, 1);
        C.dueAll("reports of another label", new long[] {t.joints(0), t.walk(0, 0, 0), t.joints(1), t.walk(1, 0, 0)}, 1, 0, 1, 1);
        C.dueAll("labels with reports alone", joined(t), 1, 0, 0, 0, 1);
    }

    private static void enteredAlone() {
        C.part("a WALK: a REPORT that ENTERED, then perhaps one by a LINK");
        PacketTrail t = Checks.net(LINE + ALL);
        send(t, 1, 1, 0, 0);
        C.due("one that entered", t.joints(0), 1);
        first("one", t, walk(1, -1, 1));
        send(t, 0, 0, 0, 0);
        send(t, 2, 2, 0, 0);
        C.due("three", t.joints(0), 1);
        first("three", t, walk(0, -1, 0), walk(1, -1, 1), walk(2, -1, 2));
    }

    private static void byLinksAlone() {
        C.part("0: BROKEN");
        PacketTrail t = Checks.net(LINE + BY_LIFE);
        send(t, 0, 1, 10, 0);
        C.dueAll("a report by a link, none that entered", new long[] {t.told(10), t.reports(0, 1, 0), t.joints(0), t.walk(0, 0, 0)}, 1, 1, 0, BROKEN);
        C.dueAll("joined", joined(t), 0, 0, 1, 0, 0);
        send(t, 0, 0, 9, 0);
        C.dueAll("one that entered where it left", new long[] {t.joints(0), t.walk(0, 0, 0)}, 1, 1);
        send(t, 0, 1, 10, 0);
        C.dueAll("one by a link too many", new long[] {t.joints(0), t.walk(0, 0, 0)}, 0, BROKEN);
        t.undo();
        C.dueAll("as before", new long[] {t.joints(0), t.walk(0, 0, 0)}, 1, 1);
    }

    private static void linkThatDoesNotLeave() {
        C.part("by a LINK that leaves its HOP");
        PacketTrail t = Checks.net(LINE + BY_LIFE);
        send(t, 0, 2, 11, 0);
        C.dueAll("at 2 by link 1 alone", new long[] {t.told(10), t.reports(0, 2, 1)}, 1, 1);
        send(t, 0, 0, 0, 0);
        C.dueAll("it does not leave 0", new long[] {t.joints(0), t.walk(0, 0, 0)}, 0, BROKEN);
        send(t, 2, 2, 0, 0);
        C.dueAll("nor 2, to which it leads", new long[] {t.joints(0), t.walk(0, 0, 0)}, 0, BROKEN);
        send(t, 1, 1, 0, 0);
        C.due("it leaves 1", t.joints(0), 1);
        first("it leaves 1", t, walk(0, -1, 0), walk(1, 1, -1, 2), walk(2, -1, 2));
    }

    private static void oneWholeTrail() {
        C.part("a WALK may go round, as long as a TRAIL");
        for (int life = 0; life <= 12; life++) {
            PacketTrail t = Checks.net(ROUND + ALL);
            send(t, 0, 2, life, 0);
            C.dueAll("sure", new long[] {t.joints(0), t.walk(0, 0, 0), t.walk(0, 0, 1), t.walk(0, 0, 2), t.walk(0, 0, 3)}, 1, 1, 0, life, life % 2);
            for (int i = 0; i < life; i++) {
                C.due("link", t.walkAt(0, 0, i), i % 2);
            }
            int links = life;
            C.refused("no more", GONE, () -> t.walkAt(0, 0, links));
            C.refused("below 0", GONE, () -> t.walkAt(0, 0, -1));
            C.dueAll("joined", joined(t), 1, 0, 0, 0, 1);
        }
    }

    private static void setsThatAreAlike() {
        C.part("two sets are alike, if they have the same WALKS, each as often");
        PacketTrail t = Checks.net(LINE + ALL);
        send(t, 3, 0, 0, 0, 0);
        send(t, 2, 0, 1, 1, 0);
        C.due("whichever of five goes on", t.joints(0), 1);
        first("two of five", t, walk(0, -1, 0), walk(0, -1, 0), walk(0, -1, 0), walk(0, 0, -1, 1), walk(0, 0, -1, 1));
        send(t, 0, 2, 2, 0);
        // One of the three at 1 goes on to 2: whichever.
        C.due("whichever of three goes on", t.joints(0), 1);
        send(t, 1, 1, 0, 0);
        // It was one of these three, or the one that entered at 1.
        C.due("or the one that entered there", t.joints(0), 2);
        t.undo();
        send(t, 1, 2, 1, 0);
        // Two at 2 by link 1: of the four at 1 two go on, of these one or none entered there.
        C.due("how many of each", t.joints(0), 2);
    }

    private static void endsFirst() {
        C.part("deep first, of what can come next first that it ends");
        PacketTrail t = Checks.net(LINE + ALL);
        send(t, 0, 2, 2, 0);
        send(t, 1, 1, 0, 0);
        C.due("two sets", t.joints(0), 2);
        first("the walk from 0 ends at 1", t, walk(0, 0, -1, 1), walk(1, 1, -1, 2));
        PacketTrail one = Checks.net(LINE + ALL);
        send(one, 0, 2, 2, 0);
        send(one, 0, 0, 0, 0);
        C.due("one set", one.joints(0), 1);
        first("the first walk ends at once", one, walk(0, -1, 0), walk(0, 0, 1, -1, 2));
        PacketTrail round = Checks.net(ROUND + ALL);
        send(round, 0, 2, 2, 0);
        send(round, 0, 2, 2, 0);
        // 0-1-0 twice; 0 and 0-1-0-1-0.
        C.due("round", round.joints(0), 2);
        first("the first walk ends at once", round, walk(0, -1, 0), walk(0, 0, 1, 0, 1, -1, 0));
    }

    private static void byNumberOfLink() {
        C.part("then LINKS of which a REPORT is left, by number");
        PacketTrail t = Checks.net("hops 4;link 0 3;link 0 1;link 3 2;link 1 2;link 0 2;route 0 3 3;route 0 1 1;route 3 2 2;route 1 2 2;" + ALL);
        send(t, 0, 1, 1, 0);
        send(t, 0, 3, 1, 0);
        C.due("sure", t.joints(0), 1);
        first("by number, not by hop", t, walk(0, 0, -1, 3), walk(0, 1, -1, 1));
        send(t, 1, 2, 1, 0);
        send(t, 3, 2, 1, 0);
        // Each of the two reports at 2 behind a walk from 0 or behind what entered.
        C.due("four sets", t.joints(0), 4);
        first("all end as soon as they can", t, walk(0, 0, -1, 3), walk(0, 1, -1, 1), walk(1, 3, -1, 2), walk(3, 2, -1, 2));
        PacketTrail last = Checks.net("hops 10;link 9 0;link 9 1;link 9 2;link 9 3;link 9 4;link 9 5;link 9 6;link 9 7;link 9 8;"
            + "route 9 8 8;route 9 0 0;" + ALL);
        send(last, 9, 8, 1, 0);
        send(last, 9, 0, 1, 0);
        first("the last link", last, walk(9, 0, -1, 0), walk(9, 8, -1, 8));
    }

    private static void leastHopFirst() {
        C.part("each one beginning at the least HOP at which a REPORT that ENTERED is left");
        PacketTrail t = Checks.net("hops 10;" + ALL);
        for (int hop = 9; hop >= 0; hop--) {
            send(t, hop % 3 == 0 ? 2 : 1, hop, hop, 0, 0);
        }
        int[] hops = {0, 0, 1, 2, 3, 3, 4, 5, 6, 6, 7, 8, 9, 9};
        C.dueAll("fourteen", new long[] {t.joints(0), t.walk(0, 0, 0)}, 1, 14);
        for (int k = 0; k < hops.length; k++) {
            C.dueAll("walk " + k, new long[] {t.walk(0, k, 1), t.walk(0, k, 2), t.walk(0, k, 3)}, hops[k], 0, hops[k]);
        }
    }

    private static void notAheadOfTheWalkBefore() {
        C.part("what would make it ahead of the WALK before it is not tried");
        PacketTrail t = Checks.net(LINE + ALL);
        send(t, 0, 0, 0, 0);
        send(t, 0, 1, 1, 0);
        // 0 and 0-1, but not 0-1 and 0.
        C.due("one that ends, one that goes on", t.joints(0), 1);
        PacketTrail links = Checks.net(FORK + ALL);
        send(links, 1, 3, 1, 0);
        send(links, 1, 2, 1, 0);
        C.due("link 0, link 1, but not link 1, link 0", links.joints(0), 1);
        PacketTrail deep = Checks.net("hops 4;link 0 1;link 1 2;link 1 3;route 0 2 1;route 1 2 2;route 1 3 3;" + ALL);
        send(deep, 2, 0, 2, 2, 0);
        send(deep, 1, 3, 1, 0);
        // Three are at 1, two go on to 2 and one to 3: the one that entered there, or one of those from 0, whichever.
        C.due("alike up to the last link", deep.joints(0), 2);
        first("0-1-2 twice, then 1-3", deep, walk(0, 0, 1, -1, 2), walk(0, 0, 1, -1, 2), walk(1, 2, -1, 3));
    }

    private static void aheadByItsFirstHop() {
        C.part("a WALK is ahead of another one: by its first HOP; then by its LINKS");
        PacketTrail t = Checks.net("hops 3;link 0 1;link 1 0;link 0 2;route 0 1 1;route 1 0 0;route 0 2 2;" + ALL);
        send(t, 0, 1, 1, 0);
        send(t, 1, 1, 0, 0);
        // The walk from 1 ends, though the one from 0 goes on.
        C.due("it may end", t.joints(0), 1);
        first("it may end", t, walk(0, 0, -1, 1), walk(1, -1, 1));
        PacketTrail less = Checks.net("hops 3;link 1 0;link 0 2;link 1 2;route 1 0 0;route 0 2 2;" + ALL);
        send(less, 0, 2, 1, 0);
        send(less, 1, 0, 1, 0);
        // 0-2 and 1-0 by links 1 and 0; or 0 and 1-0-2.
        C.due("a lesser link behind a greater one", less.joints(0), 2);
        first("it ends first", less, walk(0, -1, 0), walk(1, 0, 1, -1, 2));
    }

    private static void fortyAlike() {
        C.part("40 PACKETS of one LABEL");
        PacketTrail t = Checks.net(LINE + ALL);
        send(t, 40, 0, 1, 1, 0);
        // 40 steps end all; else behind a ends there are up to 40 - a walks of two steps: 40 + 40 * 41 steps.
        C.dueAll("sure", new long[] {t.joints(0), t.walk(0, 0, 0)}, 1, 40);
        for (int k = 0; k < 40; k++) {
            C.dueAll("walk " + k, new long[] {t.walk(0, k, 1), t.walk(0, k, 2), t.walk(0, k, 3), t.walkAt(0, k, 0)}, 0, 1, 1, 0);
        }
        C.refused("the 41st", GONE, () -> t.walk(0, 40, 1));
        C.refused("the 41st", GONE, () -> t.walkAt(0, 40, 0));
        C.dueAll("joined", joined(t), 1, 0, 0, 0, 1);
        C.dueAll("matrix", new long[] {t.matrix(0, 1, 0), t.matrix(0, 1, 1), t.matrix(0, 1, 2)}, 40, 1, 40);
    }

    /**
     * STEPS of a FORK: walks from 1 end at once, then go to 2, then to 3, as none may be ahead of the one before. So
     * each way to put a, b, c of these (at most two by two as many as reports of each link) has a last WALK of one
     * step or two. Those that entered at 0 end ahead of all, a step each.
     */
    private static int steps(int alone, int entered, int toTwo, int toThree) {
        int steps = alone + entered;
        for (int a = 0; a <= entered; a++) {
            for (int b = 0; b <= toTwo; b++) {
                for (int c = 0; c <= toThree; c++) {
                    steps += b + c > 0 && a + b + c <= entered ? 2 : 0;
                }
            }
        }
        return steps;
    }

    private static PacketTrail fork(int alone, int entered, int toTwo, int toThree) {
        PacketTrail t = Checks.net(FORK + BY_LIFE);
        send(t, alone, 0, 0, 0, 0);
        send(t, entered - toTwo - toThree, 1, 1, 0, 0);
        send(t, toTwo, 1, 2, 1, 0);
        send(t, toThree, 1, 3, 1, 0);
        return t;
    }

    private static void stepsOfAFork() {
        C.part("each time a LINK is put behind a WALK, or it is ended, is a STEP");
        for (int entered = 20; entered <= 40; entered += 5) {
            for (int toTwo = 0; toTwo <= entered; toTwo += 5) {
                for (int toThree = 0; toThree <= entered - toTwo; toThree += 5) {
                    boolean many = steps(0, entered, toTwo, toThree) > 5000;
                    PacketTrail t = fork(0, entered, toTwo, toThree);
                    C.due(entered + " by " + toTwo + " and " + toThree, t.joints(0), many ? UNKNOWN : 1);
                    C.due("walks", t.walk(0, 0, 0), many ? UNKNOWN : entered);
                }
            }
        }
    }

    private static void fiveThousandSteps() {
        C.part("with more than 5,000 STEPS in all it is UNKNOWN");
        int[][] forks = {{7, 27, 8, 17}, {7, 27, 17, 8}, {0, 38, 5, 13}, {0, 38, 13, 5}};
        for (int[] f : forks) {
            C.due("steps", steps(f[0], f[1], f[2], f[3]), 5000);
            PacketTrail t = fork(f[0], f[1], f[2], f[3]);
            C.dueAll("5,000", new long[] {t.joints(0), t.walk(0, 0, 0)}, 1, f[0] + f[1]);
            C.dueAll("sure", joined(t), 1, 0, 0, 0, 1);
            C.due("its walks count", t.matrix(1, 3, 0), 2 * f[3]);
            send(t, 0, 0, 0, 0);
            C.dueAll("5,001", new long[] {t.joints(0), t.walk(0, 0, 0)}, UNKNOWN, UNKNOWN);
            C.dueAll("unknown", joined(t), 0, 0, 0, 1, 0);
            C.dueAll("its walks do not count", new long[] {t.matrix(1, 3, 0), t.matrix(1, 3, 1), t.matrix(1, 3, 2)}, 0, 1, f[3]);
            t.undo();
            C.due("5,000 again", t.joints(0), 1);
        }
    }

    private static void brokenOrUnknown() {
        C.part("BROKEN by 5,000 STEPS; by more UNKNOWN");
        PacketTrail t = fork(7, 27, 8, 17);
        // At 1 by link 2, which leaves 4, at which nobody enters: it has LIFE 10 there, 9 at 1.
        send(t, 4, 1, 10, 0);
        C.due("its report", t.reports(0, 1, 2), 1);
        C.dueAll("broken", new long[] {t.joints(0), t.walk(0, 0, 0)}, 0, BROKEN);
        C.dueAll("broken", joined(t), 0, 0, 1, 0, 0);
        send(t, 0, 0, 0, 0);
        C.dueAll("unknown", new long[] {t.joints(0), t.walk(0, 0, 0)}, UNKNOWN, UNKNOWN);
        C.dueAll("unknown", joined(t), 0, 0, 0, 1, 0);
    }

    private static void allThatThereCanBe() {
        C.part("40 PACKETS of 13 HOPS, all of one LABEL");
        PacketTrail t = Checks.net(ROUND + ALL);
        send(t, 40, 0, 2, 12, 1);
        C.dueAll("reports", new long[] {t.told(10), t.reports(1, 0, -1), t.reports(1, 1, 0), t.reports(1, 0, 1)}, 520, 40, 240, 240);
        C.dueAll("unknown", new long[] {t.joints(1), t.walk(1, 0, 0), t.joints(0), t.walk(0, 0, 0)}, UNKNOWN, UNKNOWN, 1, 0);
        C.dueAll("joined", joined(t), 0, 0, 0, 1, 0);
        C.dueAll("matrix", new long[] {t.matrix(0, 0, 0), t.matrix(0, 0, 1), t.matrix(0, 0, 2)}, 0, 1, 40);
        PacketTrail byLinks = Checks.net(ROUND + "base 13 12;mask 16;labels 2;");
        send(byLinks, 40, 0, 2, 12, 1);
        C.dueAll("480 by links, none that entered", new long[] {byLinks.told(10), byLinks.joints(1), byLinks.walk(1, 0, 0)}, 480, 0, BROKEN);
    }

    private static void setsOfOtherReports() {
        C.part("JOINED are REPORTS of a LABEL, by MASK, RANGE, KEY, M as they are when it is asked");
        PacketTrail t = Checks.net(LINE + BY_LIFE);
        send(t, 0, 2, 11, 0);
        send(t, 1, 2, 9, 0);
        // Of the first one the report at 2 alone, with LIFE 9; the second one 1-2: two by link 1, one entered.
        C.dueAll("broken", new long[] {t.told(10), t.joints(0)}, 3, 0);
        t.set(2, 11);
        C.dueAll("by RANGE: at 1, too, but not where it entered", new long[] {t.told(10), t.joints(0)}, 4, 0);
        t.set(2, 12);
        // 0-1-2 and 1-2 are the only set, as neither can end at 1 and have both come to 2.
        C.dueAll("all", new long[] {t.told(10), t.joints(0)}, 5, 1);
        t.set(2, 11);
        t.set(3, 19);
        C.dueAll("by KEY", new long[] {t.told(10), t.joints(0)}, 5, 1);
        t.set(3, 0);
        t.set(0, 4);
        C.dueAll("by MASK", new long[] {t.told(10), t.joints(0)}, 5, 1);
        t.set(4, 64);
        int first = t.packet(0, 7);
        int second = t.packet(1, 7);
        C.dueAll("by M", new long[] {t.joints(first), t.walk(first, 0, 0), t.joints(second), t.walk(second, 0, 0)}, 1, 1, 1, 1);
        t.link(0, 0);
        t.route(0, 2, -1);
        C.dueAll("trails as they were", new long[] {t.walk(first, 0, 2), t.walkAt(first, 0, 0), t.walkAt(first, 0, 1)}, 2, 0, 1);
    }

    private static void whateverK() {
        C.part("promise 19: 0 how many WALKS (whatever k; -2: UNKNOWN, -3: BROKEN)");
        PacketTrail unknown = Checks.net(ROUND + ALL);
        send(unknown, 40, 0, 2, 12, 0);
        PacketTrail broken = Checks.net(LINE + BY_LIFE);
        send(broken, 0, 1, 10, 0);
        PacketTrail two = Checks.net(LINE + ALL);
        send(two, 2, 0, 2, 2, 0);
        PacketTrail none = new PacketTrail();
        for (int k : new int[] {0, 1, 2, 40, -1, Integer.MAX_VALUE, Integer.MIN_VALUE}) {
            C.dueAll("k " + k, new long[] {unknown.walk(0, k, 0), broken.walk(0, k, 0), two.walk(0, k, 0), none.walk(0, k, 0)}, UNKNOWN, BROKEN, 2, 0);
        }
        C.due("no refusals", unknown.status(0) + broken.status(0) + two.status(0) + none.status(0), 0);
    }

    private static PacketTrail threeWalks() {
        PacketTrail t = Checks.net(LINE + ALL);
        send(t, 0, 2, 2, 0);
        send(t, 2, 2, 0, 0);
        send(t, 0, 0, 0, 0);
        return t;
    }

    private static void placesOfWalks() {
        C.part("promises 19 and 20: NoSuchElementException, behind others: there is none such");
        first("three walks", threeWalks(), walk(0, -1, 0), walk(0, 0, 1, -1, 2), walk(2, -1, 2));
        int[] all = {0, 2};
        for (int w = 1; w <= 3; w++) {
            int what = w;
            Witness.range(C, "k, what " + w, GONE, all, EdgesOfWalksTest::threeWalks, (t, v) -> t.walk(0, v, what));
        }
        Witness.range(C, "i of the second", GONE, new int[] {0, 1}, EdgesOfWalksTest::threeWalks, (t, v) -> t.walkAt(0, 1, v));
        Witness.range(C, "k of the only one with links", GONE, new int[] {1, 1}, EdgesOfWalksTest::threeWalks, (t, v) -> t.walkAt(0, v, 0));
        Witness.refuses(C, "no such what, no such walk", Checks.ARGUMENT, EdgesOfWalksTest::threeWalks, t -> t.walk(0, 3, 4));
        Witness.refuses(C, "no such label, no such walk", Checks.ARGUMENT, EdgesOfWalksTest::threeWalks, t -> t.walk(2, 3, 1));
        Witness.refuses(C, "no such label, no such link", Checks.ARGUMENT, EdgesOfWalksTest::threeWalks, t -> t.walkAt(2, 0, 0));
    }

    private static PacketTrail noSet(boolean known) {
        PacketTrail t = known ? Checks.net(LINE + BY_LIFE) : Checks.net(ROUND + ALL);
        send(t, known ? 1 : 40, 0, known ? 1 : 2, known ? 10 : 12, 0);
        return t;
    }

    private static void placesWithoutSet() {
        C.part("promises 19 and 20: there is none such, UNKNOWN, BROKEN");
        for (boolean known : new boolean[] {false, true}) {
            String name = known ? "broken" : "unknown";
            Witness.Maker maker = () -> noSet(known);
            for (int w = 1; w <= 3; w++) {
                int what = w;
                Witness.refuses(C, name + ", what " + w, GONE, maker, t -> t.walk(0, 0, what));
                Witness.refuses(C, name + ", below, what " + w, GONE, maker, t -> t.walk(0, -1, what));
            }
            Witness.refuses(C, name + ", link", GONE, maker, t -> t.walkAt(0, 0, 0));
            Witness.refuses(C, name + ", what 4", Checks.ARGUMENT, maker, t -> t.walk(0, 0, 4));
            Witness.refuses(C, name + ", what -1", Checks.ARGUMENT, maker, t -> t.walk(0, 0, -1));
        }
    }

    private static void joinedCounts() {
        C.part("promise 21: LABELS with REPORTS: SURE, of more JOINTS than 1, BROKEN, UNKNOWN");
        PacketTrail t = Checks.net("hops 3;link 0 1;link 1 2;link 1 0;route 0 2 1;route 1 2 2;route 0 1 1;route 1 0 0;base 20 10;mask 16;labels 64;");
        C.dueAll("nothing", joined(t), 0, 0, 0, 0, 0);
        send(t, 0, 2, 2, 7);
        C.dueAll("one sure", joined(t), 1, 0, 0, 0, 1);
        send(t, 0, 2, 2, 63);
        C.dueAll("two sure", joined(t), 2, 0, 0, 0, 2);
        send(t, 1, 1, 2, 63);
        C.dueAll("one of two joints", joined(t), 1, 1, 0, 0, 1);
        send(t, 0, 2, 11, 0);
        C.dueAll("one broken", joined(t), 1, 1, 1, 0, 1);
        send(t, 0, 2, 12, 33);
        C.dueAll("without reports", joined(t), 1, 1, 1, 0, 1);
        t.route(1, 2, 2);
        send(t, 20, 0, 2, 9, 1);
        C.dueAll("one unknown", joined(t), 1, 1, 1, 1, 1);
        send(t, 2, 2, 9, 62);
        send(t, 0, 2, 10, 61);
        C.dueAll("one more sure, one more broken", joined(t), 2, 1, 2, 1, 2);
        C.dueAll("labels", new long[] {t.label(0), t.label(1), t.label(2), t.label(3), t.label(4), t.label(5), t.label(6)}, 0, 1, 7, 61, 62, 63, -1);
    }

    private static void joinedToTrails() {
        C.part("promise 21: 4 SURE ones of which the set is that of the TRAILS of all PACKETS CHOSEN at their first HOP");
        PacketTrail t = Checks.net(LINE + BY_LIFE);
        send(t, 0, 1, 9, 0);
        C.dueAll("a whole trail", joined(t), 1, 0, 0, 0, 1);
        send(t, 0, 1, 9, 0);
        C.dueAll("each as often", joined(t), 1, 0, 0, 0, 1);
        send(t, 0, 0, 9, 0);
        C.dueAll("and one of one hop", joined(t), 1, 0, 0, 0, 1);
        send(t, 0, 1, 10, 0);
        // It is not chosen at 0, but at 1: three reports by link 0 behind three that entered.
        C.dueAll("three walks 0-1, but two trails, and one of 0 alone", joined(t), 1, 0, 0, 0, 0);
        t.undo();
        t.undo();
        send(t, 1, 2, 10, 0);
        C.dueAll("not chosen at its first hop, but later", new long[] {t.joints(0), t.joined(0), t.joined(4)}, 1, 1, 0);
        PacketTrail other = Checks.net(LINE + "base 20 2;mask 16;labels 2;");
        send(other, 0, 2, 1, 0);
        C.dueAll("1, then spent at 1: whole", joined(other), 1, 0, 0, 0, 1);
        other.set(2, 1);
        other.set(3, 19);
        C.dueAll("chosen at 0 alone", joined(other), 1, 0, 0, 0, 0);
        send(other, 0, 1, 2, 0);
        // With LIFE 1 at 1, by link 0: now 0-1 is a walk, of two packets; the trail of the first one is 0-1, too.
        C.dueAll("another one's report makes it whole", joined(other), 1, 0, 0, 0, 1);
        PacketTrail ends = Checks.net("hops 3;link 0 1;link 0 2;route 0 1 1;route 0 2 2;base 20 1;mask 16;key 18;labels 2;");
        send(ends, 0, 1, 2, 0);
        send(ends, 0, 2, 3, 0);
        C.dueAll("by another link", new long[] {ends.reports(0, 0, -1), ends.reports(0, 2, 1), ends.joints(0), ends.joined(4)}, 1, 1, 1, 0);
    }

    private static void joinedWithoutPackets() {
        C.part("promise 21: there are no REPORTS");
        PacketTrail t = Checks.net("hops 2;base 997 1;mask 4;labels 64;");
        C.dueAll("no packets", joined(t), 0, 0, 0, 0, 0);
        t.send(0, 0, 1, 1, 0);
        C.dueAll("not chosen", joined(t), 0, 0, 0, 0, 0);
        t.set(3, 996);
        C.dueAll("chosen", joined(t), 1, 0, 0, 0, 1);
        t.forget();
        C.dueAll("forgotten", joined(t), 0, 0, 0, 0, 0);
    }

    private static void lastLabel() {
        C.part("LABEL (0 to M less 1, else IllegalArgumentException)");
        for (int labels : new int[] {2, 3, 16, 63, 64}) {
            PacketTrail t = Checks.net(LINE + "base 2 2;labels " + labels + ";");
            send(t, 0, 2, 2, labels - 1);
            C.dueAll("the last", new long[] {t.joints(labels - 1), t.walk(labels - 1, 0, 0), t.walkAt(labels - 1, 0, 1), t.joined(0)}, 1, 1, 1, 1);
            C.refused("joints", Checks.ARGUMENT, () -> t.joints(labels));
            C.refused("walk", Checks.ARGUMENT, () -> t.walk(labels, 0, 0));
            C.refused("walkAt", Checks.ARGUMENT, () -> t.walkAt(labels, 0, 0));
            C.due("refused", t.status(1), 3);
        }
    }

    private static void matrixOfSureWalks() {
        C.part("promise 23: WALKS of SURE sets of all LABELS; from a HOP to another one (or the same)");
        PacketTrail t = Checks.net("hops 10;link 9 0;link 0 9;link 9 8;route 9 8 0;route 0 8 9;base 4 4;labels 64;");
        for (int hop = 0; hop < 10; hop++) {
            send(t, hop, hop, 0, hop);
        }
        for (int from = 0; from < 10; from++) {
            for (int to = 0; to < 10; to++) {
                long want = from == to ? 1 : 0;
                C.dueAll("from " + from + " to " + to, new long[] {t.matrix(from, to, 0), t.matrix(from, to, 1), t.matrix(from, to, 2)}, want, 1, want);
            }
        }
        send(t, 9, 8, 12, 63);
        C.dueAll("round, back to 9", new long[] {t.matrix(9, 9, 0), t.matrix(9, 9, 2), t.matrix(9, 8, 2)}, 2, 2, 0);
        send(t, 9, 8, 11, 62);
        C.dueAll("round, to 0", new long[] {t.matrix(9, 0, 0), t.matrix(9, 0, 2), t.matrix(0, 9, 0), t.matrix(0, 9, 2)}, 1, 1, 0, 0);
        t.set(4, 2);
        C.due("the trails stay, whatever M", t.matrix(9, 9, 2), 2);
    }

    private static void matrixOfUnsureWalks() {
        C.part("promise 23: of SURE sets; PACKETS of which the TRAIL does so");
        PacketTrail t = Checks.net(LINE + BY_LIFE);
        send(t, 0, 2, 2, 0);
        // BASE is twice RANGE: each walk counts two.
        C.dueAll("sure", new long[] {t.matrix(0, 2, 0), t.matrix(0, 2, 1), t.matrix(0, 2, 2)}, 2, 1, 1);
        send(t, 1, 1, 0, 0);
        C.dueAll("two joints", new long[] {t.matrix(0, 2, 0), t.matrix(0, 2, 1), t.matrix(0, 2, 2), t.matrix(1, 1, 0), t.matrix(1, 1, 2)}, 0, 1, 1, 0, 1);
        send(t, 0, 2, 3, 1);
        C.dueAll("the other label is sure", new long[] {t.matrix(0, 2, 0), t.matrix(0, 2, 1), t.matrix(0, 2, 2)}, 2, 1, 2);
        send(t, 0, 2, 12, 1);
        C.dueAll("one that is chosen nowhere", new long[] {t.matrix(0, 2, 0), t.matrix(0, 2, 2)}, 2, 3);
        send(t, 0, 2, 10, 1);
        C.dueAll("one that makes it broken", new long[] {t.matrix(0, 2, 0), t.matrix(0, 2, 1), t.matrix(0, 2, 2)}, 0, 1, 4);
    }

    private static void matrixInLowestTerms() {
        C.part("promise 23: A by R times as many; fractions in lowest terms, 0 by 1");
        PacketTrail t = Checks.net("hops 2;base 997 1;mask 16;labels 2;");
        C.dueAll("none", new long[] {t.matrix(0, 0, 0), t.matrix(0, 0, 1), t.matrix(0, 0, 2)}, 0, 1, 0);
        send(t, 40, 1, 1, 0, 0);
        C.dueAll("40 by 997", new long[] {t.matrix(1, 1, 0), t.matrix(1, 1, 1), t.matrix(1, 1, 2)}, 40 * 997, 1, 40);
        C.dueAll("none", new long[] {t.matrix(0, 1, 0), t.matrix(0, 1, 1), t.matrix(0, 1, 2)}, 0, 1, 0);
        long[][] want = {{2, 40 * 997 / 2, 1}, {3, 40 * 997, 3}, {40, 997, 1}, {80, 997, 2}, {100, 2 * 997, 5}, {996, 10 * 997, 249}, {997, 40, 1}};
        for (long[] w : want) {
            t.set(2, (int) w[0]);
            C.dueAll("by RANGE " + w[0], new long[] {t.matrix(1, 1, 0), t.matrix(1, 1, 1)}, w[1], w[2]);
        }
    }
}
