import java.math.BigInteger;

/** Promise by promise: ordinary inputs, the edges that the document names, wrong inputs; answers worked out by hand. */
public final class PromisesTest {
    private static final Checks C = new Checks();
    private static final String GONE = Checks.NO_ELEMENT;
    private static final String ARG = Checks.ARGUMENT;
    /** Round and round between 0 and 1 for what is to go to 2. */
    private static final String LOOP = "hops 3;link 0 1;link 1 0;link 1 2;route 0 2 1;route 1 2 0;";
    /** A line of hops, all chosen, three labels: label is (37 * NUMBER + SIZE and so on) modulo 9973, 3. */
    private static final String LINE = "hops 3;link 0 1;link 1 2;link 0 2;route 0 2 1;route 1 2 2;base 10 10;mask 4;labels 3;";

    public static void main(String[] args) {
        newObject();
        feed();
        text();
        faults();
        send();
        sendTrails();
        forget();
        link();
        route();
        set();
        undo();
        told();
        linkTold();
        routeTold();
        packet();
        trail();
        mix();
        reports();
        label();
        joints();
        jointsUnknown();
        walk();
        walkAt();
        joined();
        estimate();
        estimateOfSizes();
        matrix();
        fates();
        leastLabels();
        unlike();
        clashes();
        bestKey();
        bestMask();
        print();
        status();
        asked();
        C.finish();
    }

    private static void newObject() {
        C.part("promise 1");
        PacketTrail t = new PacketTrail();
        long[] first = {2, 0, 0, 7, 101, 20, 0, 16, 0, 0, 0, 0, 0, 0};
        for (int what = 0; what < first.length; what++) {
            C.due("told(" + what + ")", t.told(what), first[what]);
        }
        C.due("routeTold", t.routeTold(0, 1), -1);
        C.due("fault", t.fault(), -1);
        C.due("NONE", PacketTrail.NONE, -1);
        for (int what = 0; what < 3; what++) {
            C.due("status", t.status(what), 0);
        }
    }

    private static void feed() {
        C.part("promise 2");
        PacketTrail t = new PacketTrail();
        for (int n = 20; n <= 400; n += 20) {
            C.due("feed", t.feed(n == 20 ? 0x686f7073 : 0x20202020, n == 20 ? 0x20353b20 : 0x20202020, 0x20202020, 0x20202020, 0x20202020), n);
        }
        C.due("a full tape", t.feed(1, 2, 3, 4, 5), -1);
        C.due("bytes", t.told(9), 400);
        C.due("not refused by a throw", t.status(0) + t.status(1) + t.status(2), 0);
        C.due("text of 400 bytes", t.text(400), 0);
        C.due("hops", t.told(0), 5);
        C.due("empty then", t.told(9), 0);
        C.due("feed again", t.feed(-1, -1, -1, -1, -1), 20);
        C.due("signs above 127", t.text(20), -9);
    }

    private static void text() {
        C.part("promise 3");
        PacketTrail t = Checks.net("hops 4;link 3 1;link 0 1;cut 3 1;cut 3 1;route 0 3 1;base 50 9;key 4;key 6;mask 31;labels 9;mask 3;");
        long[] told = {4, 2, 0, 3, 50, 9, 6, 9, 0, 0};
        for (int what = 0; what < told.length; what++) {
            C.due("told(" + what + ")", t.told(what), told[what]);
        }
        C.due("cut", t.linkTold(0, 2), 0);
        C.due("up", t.linkTold(1, 2), 1);
        C.due("route", t.routeTold(0, 3), 1);
        t.send(0, 3, 1, 1, 1);
        t.link(1, 0);
        C.due("a fault", Checks.tell(t, "hops 2;link 0 1;x"), -9);
        C.due("its place", t.fault(), 16);
        C.due("the tape is empty", t.told(9), 0);
        C.due("hops stay", t.told(0), 4);
        C.due("packets stay", t.told(2), 1);
        C.due("taken back can be", t.told(8), 2);
        C.due("cut stays", t.linkTold(1, 2), 0);
        t.feed(0x686f7073, 0x20323b20, 0, 0, 0);
        C.refused("below 0", ARG, () -> t.text(-1));
        C.refused("above the tape", ARG, () -> t.text(21));
        C.due("the tape stays", t.told(9), 20);
        C.due("the place stays", t.fault(), 16);
        C.due("a part of the tape", t.text(8), 0);
        C.due("the tape is empty", t.told(9), 0);
        C.due("without a fault", t.fault(), -1);
        long[] anew = {2, 0, 0, 7, 101, 20, 0, 16, 0};
        for (int what = 0; what < anew.length; what++) {
            C.due("anew told(" + what + ")", t.told(what), anew[what]);
        }
        C.due("nothing to take back", t.undo(), -1);
        C.due("refused", t.status(1), 2);
        PacketTrail again = Checks.net("hops 3;link 0 1;link 0 2;route 0 2 1;route 0 2 2;base 9 1;base 30 30;key 29;labels 2;labels 64;");
        C.due("route told last", again.routeTold(0, 2), 1);
        C.due("base told last", again.told(4), 30);
        C.due("labels told last", again.told(7), 64);
    }

    private static void faults() {
        C.part("promises 3 and 4");
        fault("hops 2;", 0, -1);
        fault("hops 10;", 0, -1);
        fault("hops 1;", -8, 5);
        fault("hops 11;", -8, 5);
        fault("   hops  0002  ;   ", 0, -1);
        fault("hops2;link0 1;link1 0;", 2, -1);
        fault("hops 3;route0 1 2", -6, 12);
        fault("", -9, 0);
        fault("   ", -9, 3);
        fault("hop", -9, 0);
        fault(" hop 2;", -9, 1);
        fault("hopss 2;", -9, 0);
        fault("hops", -9, 4);
        fault("hops  ", -9, 6);
        fault("hops ;", -9, 5);
        fault("hops 2", -9, 6);
        fault("hops 2 ", -9, 7);
        fault("hops 2,", -9, 6);
        fault("hops 2;;", -9, 7);
        fault("hops 2;hops 2;", -9, 7);
        fault("hops 2;lin", -9, 7);
        fault("hops 2;link", -9, 11);
        fault("hops 2;link 0", -9, 13);
        fault("hops 2;link 0 1", -9, 15);
        fault("hops 2;link 0 1 1;", -9, 16);
        fault("hops 2;link 01;", -9, 14);
        fault("hops 2;link 0x 1;", -9, 13);
        fault("hops 2;Link 0 1;", -9, 7);
        fault("hops 2;linkz 0 1;", -9, 7);
        fault("hops 2;linka 0 1;", -9, 7);
        fault("hops 2;link`0 1;", -9, 11);
        fault("hops 2;link{0 1;", -9, 11);
        fault("hops 2;link/0 1;", -9, 11);
        fault("hops 2;link 0:1;", -9, 13);
        fault("hops 2;linK 0 1;", -9, 7);
        fault("hops 2;link -1 0;", -9, 12);
        fault("hops 2;\tlink 0 1;", -9, 7);
        fault("hops 2;\u0000", -9, 7);
        fault("hops 2;\u00e9", -9, 7);
        fault("hops 2;link 2 0;", -8, 12);
        fault("hops 2;link 0 2;", -8, 14);
        fault("hops 2;link 0 0;", -8, 14);
        fault("hops 2;link 2 2", -8, 12);
        fault("hops 2;link 4294967296 1;", -8, 12);
        fault("hops 2;link 0 18446744073709551617;", -8, 14);
        fault("hops 2;link 00000000000000000000000 0000000000000000000000001;", 1, -1);
        fault("hops 2;link 0 1;link 0 1;", -6, 21);
        fault("hops 2;link 0 1;link 0 1", -6, 21);
        fault("hops 2;link 0 1;link 1 0;", 2, -1);
        fault("hops 2;cut 0 1;link 0 1;", -6, 11);
        fault("hops 2;link 0 1;cut 1 0;", -6, 20);
        fault("hops 2;cut 0 0;", -8, 13);
        fault("hops 3;route 0 1 2;", -6, 13);
        fault("hops 3;route 3 0 2;", -8, 13);
        fault("hops 3;route 0 0 2;", -8, 15);
        fault("hops 3;route 0 3 1;", -8, 15);
        fault("hops 3;route 0 1 0;", -8, 17);
        fault("hops 3;route 0 1 3;", -8, 17);
        fault("hops 3;route 0 1;", -9, 16);
        fault("hops 3;link 1 0;route 0 2 1;", -6, 22);
        fault("hops 2;base 1 1;", -8, 12);
        fault("hops 2;base 998 1;", -8, 12);
        fault("hops 2;base 997 997;", 0, -1);
        fault("hops 2;base 2 0;", -8, 14);
        fault("hops 2;base 2 3;", -8, 14);
        fault("hops 2;base 2 2;", 0, -1);
        fault("hops 2;base 2;", -9, 13);
        fault("hops 2;key 100;", 0, -1);
        fault("hops 2;key 101;", -8, 11);
        fault("hops 2;base 200 1;key 199;", 0, -1);
        fault("hops 2;base 200 1;key 200;", -8, 22);
        fault("hops 2;key 5;base 5 1;", -8, 18);
        fault("hops 2;key 5;base 6 1;", 0, -1);
        fault("hops 2;key 5;key 4;base 5 1;", 0, -1);
        fault("hops 2;mask 0;", -8, 12);
        fault("hops 2;mask 32;", -8, 12);
        fault("hops 2;mask 31;mask 1;", 0, -1);
        fault("hops 2;labels 1;", -8, 14);
        fault("hops 2;labels 65;", -8, 14);
        fault("hops 2;labels 64;labels 2;", 0, -1);
        StringBuilder many = new StringBuilder("hops 6;");
        for (int a = 0; a < 6; a++) {
            for (int b = 0; b < 6; b++) {
                if (a != b && a * 5 + b < 25 && many.length() < 7 + 24 * 9) {
                    many.append("link ").append(a).append(' ').append(b).append(';');
                }
            }
        }
        fault(many.toString(), 24, -1);
        fault(many + " link 5 4;", -7, many.length() + 1);
        fault(many + " link 0 1;", -7, many.length() + 1);
        fault(many + " link ", -7, many.length() + 1);
        fault(many + " links 5 4;", -9, many.length() + 1);
        fault(many + " cut 0 1;", 24, -1);
    }

    private static void fault(String text, int answer, int place) {
        PacketTrail t = new PacketTrail();
        Checks.tell(t, "hops 3;x");
        C.due("text \"" + text + "\"", Checks.tell(t, text), answer);
        C.due("fault of \"" + text + "\"", t.fault(), place);
        C.due("links behind \"" + text + "\"", t.told(1), Math.max(0, answer));
    }

    private static void send() {
        C.part("promise 5");
        PacketTrail t = Checks.net("hops 3;link 0 1;");
        C.due("the first", t.send(0, 2, 0, 1, 0), 0);
        C.due("the second", t.send(2, 2, 9999, 200, 12), 1);
        C.refused("from", ARG, () -> t.send(3, 0, 0, 1, 0));
        C.refused("from below", ARG, () -> t.send(-1, 0, 0, 1, 0));
        C.refused("dest", ARG, () -> t.send(0, 3, 0, 1, 0));
        C.refused("dest below", ARG, () -> t.send(0, -1, 0, 1, 0));
        C.refused("number", ARG, () -> t.send(0, 1, 10000, 1, 0));
        C.refused("number below", ARG, () -> t.send(0, 1, -1, 1, 0));
        C.refused("size", ARG, () -> t.send(0, 1, 0, 201, 0));
        C.refused("size below", ARG, () -> t.send(0, 1, 0, 0, 0));
        C.refused("life", ARG, () -> t.send(0, 1, 0, 1, 13));
        C.refused("life below", ARG, () -> t.send(0, 1, 0, 1, -1));
        C.due("refused ones do not count", t.told(2), 2);
        for (int i = 2; i < 40; i++) {
            C.due("one more", t.send(i % 3, 1, i, 1, 2), i);
        }
        C.due("as much as can be taken back", t.told(8), 12);
        C.refused("the 41st", Checks.STATE, () -> t.send(0, 1, 0, 1, 0));
        C.refused("the argument ahead", ARG, () -> t.send(0, 1, 0, 0, 0));
        C.due("refused for the state", t.status(2), 1);
        C.due("packets", t.told(2), 40);
        t.undo();
        C.due("room again", t.send(0, 1, 0, 1, 0), 39);
    }

    private static void sendTrails() {
        C.part("promise 5, trails");
        PacketTrail t = Checks.net(LOOP);
        t.send(2, 2, 0, 1, 0);
        C.dueAll("arrived at once", fateAndHops(t, 0), 0, 2);
        t.send(2, 0, 0, 1, 5);
        C.dueAll("strayed", fateAndHops(t, 1), 1, 2);
        t.send(0, 2, 0, 1, 0);
        C.dueAll("spent at once", fateAndHops(t, 2), 3, 0);
        t.send(0, 2, 0, 1, 12);
        C.dueAll("round and round", fateAndHops(t, 3), 3, 0, 1, 0, 1, 0, 1, 0, 1, 0, 1, 0, 1, 0);
        t.link(0, 0);
        t.send(0, 2, 0, 1, 0);
        C.dueAll("lost, though it has no life", fateAndHops(t, 4), 2, 0);
        t.send(1, 2, 0, 1, 9);
        C.dueAll("lost later", fateAndHops(t, 5), 2, 1, 0);
        C.dueAll("a trail stays as it was", fateAndHops(t, 3), 3, 0, 1, 0, 1, 0, 1, 0, 1, 0, 1, 0, 1, 0);
        t.route(1, 2, 2);
        t.send(1, 2, 0, 1, 1);
        C.dueAll("arrived with its last life", fateAndHops(t, 6), 0, 1, 2);
        t.send(2, 1, 0, 1, 0);
        C.dueAll("strayed without life", fateAndHops(t, 7), 1, 2);
        t.send(1, 2, 0, 1, 0);
        C.dueAll("spent ahead of it", fateAndHops(t, 8), 3, 1);
    }

    private static long[] fateAndHops(PacketTrail t, int packet) {
        int hops = t.packet(packet, 6);
        long[] all = new long[hops + 1];
        all[0] = t.packet(packet, 5);
        for (int k = 0; k < hops; k++) {
            all[k + 1] = t.trail(packet, k, 0);
        }
        return all;
    }

    private static void forget() {
        C.part("promise 6");
        PacketTrail t = Checks.net(LINE);
        C.due("none", t.forget(), 0);
        t.send(0, 2, 1, 1, 1);
        t.send(0, 2, 2, 1, 1);
        C.due("two", t.forget(), 2);
        C.due("none is left", t.told(2), 0);
        C.refused("the first", GONE, () -> t.packet(0, 0));
        C.due("numbers begin anew", t.send(1, 2, 3, 1, 1), 0);
        C.due("the new one", t.packet(0, 2), 3);
        C.due("links stay", t.told(1), 3);
        t.undo();
        t.undo();
        C.due("they are back", t.packet(0, 2) * 10 + t.packet(1, 2), 12);
    }

    private static void link() {
        C.part("promise 7");
        PacketTrail t = Checks.net(LINE);
        C.due("up already", t.link(2, 1) ? 1 : 0, 0);
        C.due("cut", t.link(2, 0) ? 1 : 0, 1);
        C.due("cut already", t.link(2, 0) ? 1 : 0, 0);
        C.due("told", t.linkTold(2, 2), 0);
        C.due("up", t.link(2, 1) ? 1 : 0, 1);
        C.refused("no such link", GONE, () -> t.link(3, 1) ? 1 : 0);
        C.refused("below", GONE, () -> t.link(-1, 1) ? 1 : 0);
        C.refused("neither", ARG, () -> t.link(0, 2) ? 1 : 0);
        C.refused("neither", ARG, () -> t.link(0, -1) ? 1 : 0);
        C.refused("no such link, ahead", GONE, () -> t.link(3, 2) ? 1 : 0);
        C.due("each can be taken back", t.told(8), 4);
    }

    private static void route() {
        C.part("promise 8");
        PacketTrail t = Checks.net(LINE);
        C.due("what it was", t.route(0, 2, 2), 0);
        C.due("told", t.routeTold(0, 2), 2);
        C.due("none from now on", t.route(0, 2, -1), 2);
        C.due("none", t.routeTold(0, 2), -1);
        C.due("it was none", t.route(0, 1, 2), -1);
        C.due("by a round way", t.routeTold(0, 1), 2);
        C.refused("no such hop", GONE, () -> t.route(3, 0, -1));
        C.refused("no such hop", GONE, () -> t.route(-1, 0, -1));
        C.refused("no such dest", GONE, () -> t.route(0, 3, 0));
        C.refused("no such link", GONE, () -> t.route(0, 1, 3));
        C.refused("less than none", GONE, () -> t.route(0, 1, -2));
        C.refused("the same hop", ARG, () -> t.route(1, 1, -1));
        C.refused("the same hop, no such link", GONE, () -> t.route(1, 1, 3));
        C.refused("a link of another hop", ARG, () -> t.route(0, 2, 1));
        C.refused("a link that comes there", ARG, () -> t.route(1, 2, 0));
        C.due("refused ones can't be taken back", t.told(8), 3);
    }

    private static void set() {
        C.part("promise 9");
        PacketTrail t = new PacketTrail();
        C.refused("base less than range", ARG, () -> t.set(1, 19));
        C.due("base as range", t.set(1, 20), 101);
        C.due("taken back", t.undo(), 0);
        C.due("mask", t.set(0, 31), 7);
        C.due("base", t.set(1, 997), 101);
        C.due("range", t.set(2, 997), 20);
        C.due("key", t.set(3, 996), 0);
        C.due("labels", t.set(4, 64), 16);
        C.dueAll("all of them", new long[] {t.told(3), t.told(4), t.told(5), t.told(6), t.told(7)}, 31, 997, 997, 996, 64);
        int[][] wrong = {{0, 0}, {0, 32}, {1, 1}, {1, 998}, {1, 996}, {2, 0}, {2, 998}, {3, -1}, {3, 997}, {4, 1}, {4, 65}, {5, 1}, {-1, 1}};
        for (int[] w : wrong) {
            C.refused("set(" + w[0] + ", " + w[1] + ")", ARG, () -> t.set(w[0], w[1]));
        }
        C.due("refused", t.status(1), wrong.length + 1);
        t.set(2, 1);
        C.refused("base not above key", ARG, () -> t.set(1, 996));
        t.set(3, 1);
        C.due("base just above key", t.set(1, 2), 997);
        C.refused("key not below base", ARG, () -> t.set(3, 2));
        C.due("range as base", t.set(2, 2), 1);
        C.refused("range above base", ARG, () -> t.set(2, 3));
        C.due("least mask", t.set(0, 1), 31);
        C.due("least labels", t.set(4, 2), 64);
        C.due("base as it is", t.set(1, 2), 2);
        C.refused("base below 2", ARG, () -> t.set(1, 1));
    }

    private static void undo() {
        C.part("promise 10");
        PacketTrail t = Checks.net(LINE);
        C.due("none could", t.undo(), -1);
        t.send(0, 2, 1, 1, 5);
        t.link(1, 0);
        t.route(0, 2, 2);
        t.set(4, 5);
        t.forget();
        t.send(1, 2, 7, 1, 5);
        C.due("send", t.undo(), 5);
        C.due("no packet", t.told(2), 0);
        C.due("forget", t.undo(), 4);
        C.due("its packet", t.packet(0, 2), 1);
        C.due("set", t.undo(), 3);
        C.due("labels", t.told(7), 3);
        C.due("route", t.undo(), 2);
        C.due("as it was", t.routeTold(0, 2), 0);
        C.due("link", t.undo(), 1);
        C.due("up", t.linkTold(1, 2), 1);
        C.due("the first", t.undo(), 0);
        C.due("none", t.told(2), 0);
        C.due("none could", t.undo(), -1);
        C.due("nor now", t.undo(), -1);
        for (int i = 0; i < 15; i++) {
            t.set(4, 10 + i);
        }
        C.due("the latest 12", t.told(8), 12);
        for (int left = 11; left >= 0; left--) {
            C.due("still can", t.undo(), left);
        }
        C.due("as ahead of the 4th", t.told(7), 12);
        C.due("no more", t.undo(), -1);
        t.feed(1, 2, 3, 4, 5);
        t.set(4, 4);
        C.refused("wrong", ARG, () -> t.set(4, 1));
        t.undo();
        C.due("the tape is no part of it", t.told(9), 20);
        C.due("refusals stay counted", t.status(1), 1);
        t.set(4, 4);
        t.text(0);
        C.due("a fault takes nothing away", t.told(8), 1);
        Checks.tell(t, "hops 2;");
        C.due("told anew", t.told(8), 0);
        C.due("not behind a text", t.undo(), -1);
    }

    private static void told() {
        C.part("promise 11");
        PacketTrail t = Checks.net(LINE + "base 10 3;mask 16;");
        t.send(0, 2, 1, 1, 3);
        t.send(0, 2, 4, 1, 2);
        t.send(0, 2, 7, 1, 2);
        t.send(0, 2, 1, 1, 1);
        t.send(1, 2, 1, 1, 9);
        t.feed(0, 0, 0, 0, 0);
        long[] want = {3, 3, 5, 16, 10, 3, 0, 3, 5, 20, 10, 3, 1, 3};
        for (int what = 0; what < want.length; what++) {
            C.due("told(" + what + ")", t.told(what), want[what]);
        }
        C.refused("no such", ARG, () -> t.told(14));
        C.refused("no such", ARG, () -> t.told(-1));
    }

    private static void linkTold() {
        C.part("promise 12");
        PacketTrail t = Checks.net("hops 10;link 9 3;link 3 9;cut 3 9;");
        C.dueAll("link 0", new long[] {t.linkTold(0, 0), t.linkTold(0, 1), t.linkTold(0, 2)}, 9, 3, 1);
        C.dueAll("link 1", new long[] {t.linkTold(1, 0), t.linkTold(1, 1), t.linkTold(1, 2)}, 3, 9, 0);
        C.refused("no such link", GONE, () -> t.linkTold(2, 0));
        C.refused("below", GONE, () -> t.linkTold(-1, 0));
        C.refused("what", ARG, () -> t.linkTold(0, 3));
        C.refused("what", ARG, () -> t.linkTold(0, -1));
        C.refused("no such link, ahead", GONE, () -> t.linkTold(2, 3));
    }

    private static void routeTold() {
        C.part("promise 13");
        PacketTrail t = Checks.net(LINE);
        C.due("told", t.routeTold(1, 2), 1);
        C.due("none", t.routeTold(2, 1), -1);
        C.due("the same", t.routeTold(2, 2), -1);
        C.refused("no such hop", GONE, () -> t.routeTold(3, 0));
        C.refused("no such hop", GONE, () -> t.routeTold(-1, 0));
        C.refused("no such dest", GONE, () -> t.routeTold(0, 3));
        C.refused("no such dest", GONE, () -> t.routeTold(0, -1));
    }

    private static void packet() {
        C.part("promise 14");
        PacketTrail t = Checks.net(LINE + "base 10 4;mask 16;");
        t.send(0, 2, 1234, 56, 5);
        // LABEL: (2 * 37 + 1234) * 37 + 56 is 48,452, modulo 9,973 it is 8,560, modulo 3 it is 1.
        long[] want = {0, 2, 1234, 56, 5, 0, 3, 1, 1};
        for (int what = 0; what < want.length; what++) {
            C.due("packet(0, " + what + ")", t.packet(0, what), want[what]);
        }
        t.send(2, 1, 9999, 200, 12);
        t.set(4, 64);
        // 2 * 37 + 1 is 75; 75 * 37 + 9,999 is 12,774, then 2,801; that times 37 and 200 is 103,837, then 4,107.
        C.due("label of another", t.packet(1, 7), 4107 % 64);
        C.due("life as sent", t.packet(1, 4), 12);
        C.refused("no such packet", GONE, () -> t.packet(2, 0));
        C.refused("below", GONE, () -> t.packet(-1, 0));
        C.refused("what", ARG, () -> t.packet(0, 9));
        C.refused("what", ARG, () -> t.packet(0, -1));
        C.refused("no such packet, ahead", GONE, () -> t.packet(2, 9));
    }

    private static void trail() {
        C.part("promise 15");
        PacketTrail t = Checks.net(LINE + "base 10 4;mask 16;key 9;");
        t.send(0, 2, 5, 1, 6);
        // The mix is LIFE and KEY modulo 10: 6 + 9, 5 + 9, 4 + 9.
        C.dueAll("the first hop", asked(t, 0, 0), 0, -1, 6, 5, 0);
        C.dueAll("the second hop", asked(t, 0, 1), 1, 0, 5, 4, 0);
        C.dueAll("the last hop", asked(t, 0, 2), 2, 1, 4, 3, 1);
        C.refused("no such packet", GONE, () -> t.trail(1, 0, 0));
        C.refused("below", GONE, () -> t.trail(-1, 0, 0));
        C.refused("no such place", GONE, () -> t.trail(0, 3, 0));
        C.refused("no such place", GONE, () -> t.trail(0, -1, 0));
        C.refused("what", ARG, () -> t.trail(0, 0, 5));
        C.refused("what", ARG, () -> t.trail(0, 0, -1));
        C.refused("no such place, ahead", GONE, () -> t.trail(0, 3, 5));
    }

    private static long[] asked(PacketTrail t, int packet, int k) {
        long[] all = new long[5];
        for (int what = 0; what < 5; what++) {
            all[what] = t.trail(packet, k, what);
        }
        return all;
    }

    private static void mix() {
        C.part("promise 15, mixes");
        PacketTrail t = Checks.net("hops 10;base 997 1;mask 31;");
        t.send(9, 8, 7654, 123, 11);
        long all = ((((9L * 31 + 8) * 31 + 7654) * 31 + 123) * 31 + 11) % 997;
        C.due("all fields", t.trail(0, 0, 3), all);
        t.set(3, 996);
        C.due("with a key", t.trail(0, 0, 3), (all + 996) % 997);
        t.set(3, 0);
        long[] fields = {9, 8, 7654, 123, 11};
        for (int mask = 1; mask < 32; mask++) {
            t.set(0, mask);
            long want = 0;
            for (int f = 0; f < 5; f++) {
                want = (mask & 1 << f) != 0 ? want * 31 + fields[f] : want;
            }
            C.due("mask " + mask, t.trail(0, 0, 3), want % 997);
        }
        t.set(0, 1);
        t.set(2, 9);
        C.due("9 is not below 9", t.trail(0, 0, 4), 0);
        t.set(2, 10);
        C.due("9 is below 10", t.trail(0, 0, 4), 1);
    }

    private static void reports() {
        C.part("promise 16");
        PacketTrail t = Checks.net(LOOP + "base 2 2;labels 2;");
        sendLabelled(t, 0, 2, 5, 0);
        sendLabelled(t, 1, 2, 1, 0);
        sendLabelled(t, 1, 2, 1, 1);
        C.due("entered at 0", t.reports(0, 0, -1), 1);
        C.due("entered at 1", t.reports(0, 1, -1), 1);
        C.due("by link 0", t.reports(0, 1, 0), 3);
        C.due("by link 1", t.reports(0, 0, 1), 3);
        C.due("by link 2", t.reports(0, 2, 2), 0);
        C.due("the other label", t.reports(1, 0, 1), 1);
        C.refused("no such hop", GONE, () -> t.reports(0, 3, -1));
        C.refused("no such hop", GONE, () -> t.reports(0, -1, -1));
        C.refused("no such link", GONE, () -> t.reports(0, 0, 3));
        C.refused("no such link", GONE, () -> t.reports(0, 0, -2));
        C.refused("no such label", ARG, () -> t.reports(2, 0, -1));
        C.refused("no such label", ARG, () -> t.reports(-1, 0, -1));
        C.refused("it leads elsewhere", ARG, () -> t.reports(0, 0, 0));
        C.refused("no such hop, ahead", GONE, () -> t.reports(2, 3, -1));
        C.refused("no such link, ahead", GONE, () -> t.reports(2, 0, 3));
    }

    /** Sends a packet of the first NUMBER by which it has the label. */
    private static void sendLabelled(PacketTrail t, int from, int dest, int life, int label) {
        for (int number = 0; number < 1000; number++) {
            int packet = t.send(from, dest, number, 1, life);
            if (t.packet(packet, 7) == label) {
                return;
            }
            t.undo();
        }
        throw new AssertionError("no number has the label");
    }

    private static void label() {
        C.part("promise 17");
        PacketTrail t = Checks.net("hops 3;base 10 5;mask 4;labels 64;");
        C.due("without packets", t.label(0), -1);
        t.send(0, 0, 1, 5, 0);
        t.send(0, 0, 0, 3, 0);
        t.send(0, 0, 2, 20, 0);
        t.send(0, 0, 5, 0 + 1, 0);
        // Labels 37 + 5, 3, 74 + 20 - 64; the last one is not chosen.
        C.dueAll("labels", new long[] {t.label(0), t.label(1), t.label(2), t.label(3)}, 3, 30, 42, -1);
        C.due("below 0", t.label(-1), -1);
        C.due("far above", t.label(Integer.MAX_VALUE), -1);
        C.due("far below", t.label(Integer.MIN_VALUE), -1);
    }

    private static void joints() {
        C.part("promise 18");
        PacketTrail t = Checks.net(LINE + "labels 2;");
        C.due("without reports", t.joints(1), 1);
        sendLabelled(t, 0, 2, 5, 1);
        C.due("one packet", t.joints(1), 1);
        C.due("the other label", t.joints(0), 1);
        sendLabelled(t, 1, 1, 5, 1);
        // 0-1-2 and 1, or 0-1 and 1-2.
        C.due("two ways", t.joints(1), 2);
        sendLabelled(t, 1, 1, 5, 1);
        C.due("the two that ended at 1 are alike", t.joints(1), 2);
        sendLabelled(t, 0, 2, 5, 1);
        // Each of the two reports at 2 stands behind one that came from 0 or behind one that entered at 1.
        C.due("none, one or two of them", t.joints(1), 3);
        t.set(0, 16);
        t.set(2, 5);
        t.forget();
        sendLabelled(t, 0, 2, 5, 1);
        C.due("chosen only later", t.told(10), 2);
        C.due("broken", t.joints(1), 0);
        C.refused("no such label", ARG, () -> t.joints(2));
        C.refused("no such label", ARG, () -> t.joints(-1));
    }

    private static PacketTrail fiveThousandSteps() {
        PacketTrail t = Checks.net("hops 4;link 1 2;link 2 3;link 3 1;link 2 1;base 2 2;labels 2;"
            + "route 1 3 2;route 2 3 1;route 2 1 3;route 3 2 1;route 3 1 1;");
        int[][] packets = {{3, 2, 2}, {2, 2, 0}, {2, 2, 0}, {3, 1, 2}, {2, 3, 4}, {2, 3, 0}, {3, 2, 4}, {2, 3, 5}};
        for (int[] p : packets) {
            sendLabelled(t, p[0], p[1], p[2], 0);
        }
        return t;
    }

    private static void jointsUnknown() {
        C.part("promises 18 to 21, unknown");
        PacketTrail t = fiveThousandSteps();
        // The plain model counts 5000 steps here; one more hop that nothing leaves is one step more.
        C.due("5000 steps", t.joints(0), 86);
        C.due("walks", t.walk(0, 0, 0), 8);
        C.due("more than one", t.joined(1), 1);
        sendLabelled(t, 0, 0, 0, 0);
        C.due("5001 steps", t.joints(0), -2);
        C.due("unknown", t.walk(0, 0, 0), -2);
        C.refused("no walk", GONE, () -> t.walk(0, 0, 1));
        C.refused("no link", GONE, () -> t.walkAt(0, 0, 0));
        C.dueAll("joined", new long[] {t.joined(0), t.joined(1), t.joined(2), t.joined(3), t.joined(4)}, 0, 0, 0, 1, 0);
        C.due("no sure walks", t.matrix(0, 0, 0), 0);
        C.due("though a trail", t.matrix(0, 0, 2), 1);
        t.undo();
        C.due("5000 steps again", t.joints(0), 86);
    }

    private static void walk() {
        C.part("promise 19");
        PacketTrail t = Checks.net(LINE + "labels 2;");
        C.due("no walks", t.walk(0, 5, 0), 0);
        C.refused("none", GONE, () -> t.walk(0, 0, 1));
        sendLabelled(t, 1, 2, 5, 1);
        sendLabelled(t, 0, 2, 5, 1);
        sendLabelled(t, 2, 2, 5, 1);
        // The first set: 0-1, as ending is tried first; then 1-2 would leave one report, so 0-1-2, 1-2, 2.
        C.due("walks", t.walk(1, 0, 0), 3);
        C.due("whatever k", t.walk(1, -7, 0), 3);
        C.dueAll("first hops", new long[] {t.walk(1, 0, 1), t.walk(1, 1, 1), t.walk(1, 2, 1)}, 0, 1, 2);
        C.dueAll("lengths", new long[] {t.walk(1, 0, 2), t.walk(1, 1, 2), t.walk(1, 2, 2)}, 2, 1, 0);
        C.dueAll("last hops", new long[] {t.walk(1, 0, 3), t.walk(1, 1, 3), t.walk(1, 2, 3)}, 2, 2, 2);
        C.refused("no such walk", GONE, () -> t.walk(1, 3, 1));
        C.refused("no such walk", GONE, () -> t.walk(1, -1, 2));
        C.refused("what", ARG, () -> t.walk(1, 0, 4));
        C.refused("what", ARG, () -> t.walk(1, 0, -1));
        C.refused("what, ahead", ARG, () -> t.walk(1, 9, 4));
        C.refused("no such label", ARG, () -> t.walk(2, 0, 0));
        C.refused("no such label", ARG, () -> t.walk(-1, 9, 1));
        t.forget();
        t.set(0, 16);
        t.set(2, 5);
        sendLabelled(t, 0, 2, 5, 1);
        C.due("broken", t.walk(1, 0, 0), -3);
        C.refused("none when broken", GONE, () -> t.walk(1, 0, 1));
    }

    private static void walkAt() {
        C.part("promise 20");
        PacketTrail t = Checks.net("hops 4;link 2 3;link 0 1;link 1 2;link 1 3;route 0 3 1;route 1 3 2;route 2 3 3;base 2 2;labels 2;");
        sendLabelled(t, 0, 3, 9, 0);
        t.route(1, 3, 3);
        sendLabelled(t, 0, 3, 9, 0);
        // Two walks from 0 by link 1: the one that goes on by link 2 is ahead of the one by link 3.
        C.due("sure", t.joints(0), 1);
        C.dueAll("the first walk", new long[] {t.walkAt(0, 0, 0), t.walkAt(0, 0, 1), t.walkAt(0, 0, 2)}, 1, 2, 0);
        C.dueAll("the second walk", new long[] {t.walkAt(0, 1, 0), t.walkAt(0, 1, 1)}, 1, 3);
        C.refused("no such link", GONE, () -> t.walkAt(0, 1, 2));
        C.refused("no such link", GONE, () -> t.walkAt(0, 0, 3));
        C.refused("below", GONE, () -> t.walkAt(0, 0, -1));
        C.refused("no such walk", GONE, () -> t.walkAt(0, 2, 0));
        C.refused("below", GONE, () -> t.walkAt(0, -1, 0));
        C.refused("no walk of the other", GONE, () -> t.walkAt(1, 0, 0));
        C.refused("no such label", ARG, () -> t.walkAt(2, 0, 0));
        C.refused("no such label, ahead", ARG, () -> t.walkAt(-1, 9, 9));
    }

    private static void joined() {
        C.part("promise 21");
        PacketTrail t = Checks.net(LINE + "labels 4;");
        sendLabelled(t, 0, 2, 5, 0);
        sendLabelled(t, 0, 2, 5, 1);
        sendLabelled(t, 1, 1, 5, 1);
        sendLabelled(t, 0, 2, 0, 2);
        C.dueAll("joined", all(t), 2, 1, 0, 0, 2);
        t.set(0, 16);
        t.set(2, 5);
        C.dueAll("by life, 0 to 4", all(t), 1, 0, 2, 0, 1);
        t.set(3, 9);
        t.set(2, 6);
        // Mixes LIFE less 1: all of these are below 6, but LIFE 0, of label 2, is not.
        C.dueAll("life 1 to 6", all(t), 1, 1, 0, 0, 1);
        t.forget();
        t.set(2, 2);
        t.set(3, 5);
        sendLabelled(t, 0, 2, 5, 3);
        // Chosen at 0 alone: sure, but not the whole trail.
        C.dueAll("a part of the trail", all(t), 1, 0, 0, 0, 0);
        C.refused("what", ARG, () -> t.joined(5));
        C.refused("what", ARG, () -> t.joined(-1));
        PacketTrail other = Checks.net("hops 3;link 0 1;link 1 2;link 0 2;route 0 2 1;route 1 2 2;base 10 9;mask 16;labels 2;");
        sendLabelled(other, 0, 2, 5, 0);
        sendLabelled(other, 0, 2, 5, 0);
        C.dueAll("two alike", all(other), 1, 0, 0, 0, 1);
        sendLabelled(other, 1, 2, 4, 0);
        C.dueAll("and another one", all(other), 1, 0, 0, 0, 1);
        sendLabelled(other, 1, 2, 9, 0);
        C.dueAll("one more, not chosen by LIFE 9 at its first hop", all(other), 0, 0, 1, 0, 0);
    }

    private static long[] all(PacketTrail t) {
        return new long[] {t.joined(0), t.joined(1), t.joined(2), t.joined(3), t.joined(4)};
    }

    private static void estimate() {
        C.part("promise 22");
        PacketTrail t = Checks.net(LOOP + "base 10 3;mask 16;");
        t.send(0, 2, 0, 7, 12);
        // By link 0 it comes with LIFE 11, 9, 7, 5, 3, 1: mixes 1, 9, 7, 5, 3, 1, two of them below 3.
        // By keys 2, 3, 1, 2, 1, 2, 1, 2, 1, 3 are chosen: squares 38, 10 * 38 / 9 - 36.
        C.dueAll("link 0", estimates(t, 1, 0), 20, 3, 6, 6, 1, 56, 9);
        C.dueAll("sizes of link 0", estimates(t, 2, 0), 140, 3, 42, 42, 1, 56 * 49, 9);
        C.dueAll("entered at 0, LIFE 12", estimates(t, 0, 0), 10, 3, 1, 1, 1, 7, 3);
        C.dueAll("entered at 1", estimates(t, 0, 1), 0, 1, 0, 0, 1, 0, 1);
        C.dueAll("link 2", estimates(t, 1, 2), 0, 1, 0, 0, 1, 0, 1);
        t.send(1, 2, 0, 5, 0);
        // Mixes 2 and 0: by keys 2, 1, 1, 0, 0, 0, 0, 0, 1, 1 are chosen: 10 * 8 / 9 - 4.
        C.dueAll("all", estimates(t, 3, 0), 20, 3, 2, 2, 1, 44, 9);
        t.set(3, 9);
        C.dueAll("all, by key 9", estimates(t, 3, 0), 10, 3, 2, 2, 1, 44, 9);
        t.set(2, 10);
        C.dueAll("all chosen", estimates(t, 3, 0), 2, 1, 2, 2, 1, 0, 1);
        C.refused("what", ARG, () -> t.estimate(4, 0, 0));
        C.refused("what", ARG, () -> t.estimate(-1, 0, 0));
        C.refused("part", ARG, () -> t.estimate(0, 0, 7));
        C.refused("part", ARG, () -> t.estimate(0, 0, -1));
        C.refused("no such hop", GONE, () -> t.estimate(0, 3, 0));
        C.refused("no such hop", GONE, () -> t.estimate(0, -1, 0));
        C.refused("no such link", GONE, () -> t.estimate(1, 3, 0));
        C.refused("no such link", GONE, () -> t.estimate(2, -1, 0));
        C.refused("not 0", GONE, () -> t.estimate(3, 1, 0));
        C.refused("not 0", GONE, () -> t.estimate(3, -1, 0));
        C.refused("what, ahead", ARG, () -> t.estimate(4, 9, 0));
        C.refused("part, ahead", ARG, () -> t.estimate(1, 9, 7));
    }

    private static long[] estimates(PacketTrail t, int what, int i) {
        long[] all = new long[7];
        for (int part = 0; part < 7; part++) {
            all[part] = t.estimate(what, i, part);
        }
        return all;
    }

    private static void estimateOfSizes() {
        C.part("promise 22, the greatest");
        PacketTrail t = Checks.net(LOOP + "base 997 1;mask 1;");
        for (int i = 0; i < 40; i++) {
            t.send(0, 2, i, 200, 12);
        }
        // All mixes are 0: by one key of 997 all 48,000 are chosen, each time by the factor 997.
        C.dueAll("sizes", estimates(t, 2, 0), 997 * 48000L, 1, 48000, 48000, 1, 48000L * 48000L * 996, 1);
        t.set(2, 996);
        C.dueAll("sizes by 996", estimates(t, 2, 0), 997 * 4000L, 83, 48000, 48000, 1, 48000L * 48000L / 12, 83);
    }

    private static void matrix() {
        C.part("promise 23");
        PacketTrail t = Checks.net(LINE + "base 10 9;mask 16;key 1;labels 4;");
        sendLabelled(t, 0, 2, 7, 0);
        sendLabelled(t, 0, 2, 7, 1);
        sendLabelled(t, 0, 1, 3, 2);
        sendLabelled(t, 0, 2, 7, 3);
        sendLabelled(t, 1, 1, 3, 3);
        sendLabelled(t, 1, 2, 8, 2);
        // Labels 0 and 1: sure; 3: two ways; 2: 0 alone (strayed) and, not chosen by LIFE 8 at 1, a report by link 1 alone.
        C.due("sure walks from 0 to 2", t.matrix(0, 2, 0), 20);
        C.due("by", t.matrix(0, 2, 1), 9);
        C.due("trails from 0 to 2", t.matrix(0, 2, 2), 3);
        C.due("trails from 0 to 0", t.matrix(0, 0, 2), 1);
        C.due("no sure one", t.matrix(0, 0, 0), 0);
        C.due("by 1", t.matrix(0, 0, 1), 1);
        C.due("trails from 1 to 1", t.matrix(1, 1, 2), 1);
        C.due("trails from 1 to 2", t.matrix(1, 2, 2), 1);
        C.due("none", t.matrix(2, 0, 2), 0);
        t.undo();
        C.due("now label 2 is sure", t.matrix(0, 0, 0), 10);
        C.refused("no such hop", GONE, () -> t.matrix(3, 0, 0));
        C.refused("no such hop", GONE, () -> t.matrix(-1, 0, 0));
        C.refused("no such hop", GONE, () -> t.matrix(0, 3, 0));
        C.refused("no such hop", GONE, () -> t.matrix(0, -1, 0));
        C.refused("part", ARG, () -> t.matrix(0, 0, 3));
        C.refused("part", ARG, () -> t.matrix(0, 0, -1));
        C.refused("no such hop, ahead", GONE, () -> t.matrix(0, 3, 3));
    }

    private static void fates() {
        C.part("promise 24");
        PacketTrail t = Checks.net(LOOP);
        t.send(0, 0, 0, 1, 0);
        t.send(2, 0, 0, 1, 0);
        t.send(2, 1, 0, 1, 0);
        t.send(0, 2, 0, 1, 3);
        t.send(0, 2, 0, 1, 4);
        t.send(1, 2, 0, 1, 4);
        t.link(1, 0);
        t.send(0, 2, 0, 1, 3);
        t.send(0, 2, 0, 1, 1);
        t.send(0, 2, 0, 1, 2);
        t.send(1, 2, 0, 1, 0);
        C.dueAll("fates", new long[] {t.fates(0), t.fates(1), t.fates(2), t.fates(3)}, 1, 2, 4, 3);
        C.refused("fate", ARG, () -> t.fates(4));
        C.refused("fate", ARG, () -> t.fates(-1));
    }

    private static void leastLabels() {
        C.part("promise 25");
        PacketTrail t = Checks.net("hops 2;base 10 5;mask 4;labels 9;");
        C.due("without packets", t.leastLabels(), 2);
        t.send(0, 0, 0, 1, 0);
        C.due("with one", t.leastLabels(), 2);
        t.send(0, 0, 0, 61, 0);
        // 61 less 1 is 60: 7 is the least that does not divide it.
        C.due("with two", t.leastLabels(), 7);
        t.send(0, 0, 5, 1, 0);
        C.due("one that is not chosen", t.leastLabels(), 7);
        t.send(0, 0, 0, 61, 0);
        C.due("two alike", t.leastLabels(), -1);
        t.undo();
        t.send(0, 0, 0, 1 + 7 * 11, 0);
        // 60, 77, 17: by 8 the rests are 1, 5, 6.
        C.due("with three", t.leastLabels(), 8);
        t.set(3, 5);
        C.due("by another key", t.leastLabels(), 2);
        t.forget();
        t.set(3, 0);
        for (int rest = 1; rest <= 40; rest++) {
            t.send(0, 0, 0, rest + 64 * (2 * rest / 5 % 3), 0);
        }
        // Unlike modulo 64 alone.
        C.due("the greatest", t.leastLabels(), 64);
    }

    private static void unlike() {
        C.part("promise 26");
        PacketTrail t = new PacketTrail();
        C.dueAll("0", new long[] {t.unlike(0, false), t.unlike(0, true)}, 1, 1);
        C.dueAll("1", new long[] {t.unlike(1, false), t.unlike(1, true)}, 1, 1);
        C.dueAll("3 of 16", new long[] {t.unlike(3, false), t.unlike(3, true)}, 105, 128);
        t.set(4, 2);
        C.dueAll("2 of 2", new long[] {t.unlike(2, false), t.unlike(2, true)}, 1, 2);
        C.dueAll("3 of 2", new long[] {t.unlike(3, false), t.unlike(3, true)}, 0, 1);
        C.dueAll("10 of 2", new long[] {t.unlike(10, false), t.unlike(10, true)}, 0, 1);
        for (int m = 2; m <= 64; m++) {
            t.set(4, m);
            BigInteger ways = BigInteger.ONE;
            for (int i = 0; i < 10; i++) {
                ways = ways.multiply(BigInteger.valueOf(Math.max(0, m - i)));
            }
            BigInteger whole = BigInteger.valueOf(m).pow(10);
            BigInteger common = ways.gcd(whole);
            C.due("10 of " + m, t.unlike(10, false), ways.divide(common).longValueExact());
            C.due("10 of " + m + ", below", t.unlike(10, true), whole.divide(common).longValueExact());
        }
        C.refused("11", ARG, () -> t.unlike(11, false));
        C.refused("below 0", ARG, () -> t.unlike(-1, true));
    }

    private static void clashes() {
        C.part("promise 27");
        PacketTrail t = Checks.net("hops 2;base 10 5;mask 4;labels 64;");
        for (int size : new int[] {1, 3, 5, 7, 8}) {
            t.send(0, 0, 0, size, 0);
        }
        t.send(0, 0, 5, 1, 0);
        C.due("four odd ones, two by two", t.clashes(2), 6);
        C.due("1 and 7", t.clashes(3), 2);
        C.due("1 and 5, 3 and 7", t.clashes(4), 2);
        C.due("1 and 8", t.clashes(7), 1);
        C.due("none", t.clashes(64), 0);
        C.due("as told", t.told(13), 0);
        C.due("labels stay", t.told(7), 64);
        C.refused("1", ARG, () -> t.clashes(1));
        C.refused("65", ARG, () -> t.clashes(65));
    }

    private static void bestKey() {
        C.part("promise 28");
        PacketTrail t = Checks.net("hops 2;base 10 2;mask 4;labels 2;");
        C.due("without packets", t.bestKey(0, 0), 0);
        C.due("without packets", t.bestKey(1, 0), -1);
        C.due("without packets", t.bestKey(1, 1), -1);
        // NUMBER 4 three times (sizes odd, odd, even), 5 twice; LABEL is 37 times NUMBER and SIZE, modulo 2.
        t.send(0, 0, 4, 1, 0);
        t.send(0, 0, 4, 3, 0);
        t.send(0, 0, 4, 2, 0);
        t.send(0, 0, 5, 1, 0);
        t.send(0, 0, 5, 3, 0);
        // Key 5: 5 alone (mixes 9, 0); key 6: 4 and 5 (mixes 0, 1); key 7: 4 alone (mix 1).
        C.dueAll("0 at least", new long[] {t.bestKey(0, 0), t.bestKey(0, 1)}, 0, 0);
        C.dueAll("1 at least", new long[] {t.bestKey(1, 0), t.bestKey(1, 1)}, 5, 1);
        C.dueAll("2 at least, the first", new long[] {t.bestKey(2, 0), t.bestKey(2, 1)}, 5, 1);
        C.dueAll("3 at least", new long[] {t.bestKey(3, 0), t.bestKey(3, 1)}, 7, 1);
        C.dueAll("4 at least", new long[] {t.bestKey(4, 0), t.bestKey(4, 1)}, 6, 4);
        C.dueAll("5 at least", new long[] {t.bestKey(5, 0), t.bestKey(5, 1)}, 6, 4);
        C.dueAll("6 at least", new long[] {t.bestKey(6, 0), t.bestKey(6, 1)}, -1, -1);
        C.due("40 at least", t.bestKey(40, 0), -1);
        C.due("the key stays", t.told(6), 0);
        C.refused("41", ARG, () -> t.bestKey(41, 0));
        C.refused("below 0", ARG, () -> t.bestKey(-1, 0));
        C.refused("what", ARG, () -> t.bestKey(0, 2));
        C.refused("what", ARG, () -> t.bestKey(0, -1));
    }

    private static void bestMask() {
        C.part("promise 29");
        PacketTrail t = Checks.net("hops 3;base 100 1;mask 16;");
        C.dueAll("without packets", new long[] {t.bestMask(0), t.bestMask(1)}, 1, 0);
        t.send(0, 1, 7, 5, 1);
        C.dueAll("one", new long[] {t.bestMask(0), t.bestMask(1)}, 1, 1);
        t.send(0, 2, 7, 5, 2);
        C.dueAll("by dest", new long[] {t.bestMask(0), t.bestMask(1)}, 2, 2);
        t.send(0, 2, 7, 6, 3);
        // DEST and SIZE: 31 + 5, 62 + 5, 62 + 6.
        C.dueAll("by dest and size", new long[] {t.bestMask(0), t.bestMask(1)}, 10, 3);
        t.send(0, 2, 7, 6, 4);
        C.dueAll("life does not count", new long[] {t.bestMask(0), t.bestMask(1)}, 10, 3);
        t.set(1, 997);
        t.send(1, 2, 7, 6, 4);
        t.send(0, 2, 9, 6, 4);
        C.dueAll("by all", new long[] {t.bestMask(0), t.bestMask(1)}, 15, 5);
        t.set(1, 2);
        C.dueAll("modulo 2", new long[] {t.bestMask(0), t.bestMask(1)}, 1, 2);
        C.due("the mask stays", t.told(3), 16);
        C.refused("what", ARG, () -> t.bestMask(2));
        C.refused("what", ARG, () -> t.bestMask(-1));
    }

    private static void print() {
        C.part("promise 30");
        PacketTrail t = Checks.net(LOOP + "base 10 1;mask 16;");
        C.due("without packets", t.print(), 0);
        t.send(1, 2, 0, 1, 1);
        // FATE 3, at 1 with LIFE 1, at 0 with LIFE 0: chosen.
        C.due("one", t.print(), (3 * 31 + 1) * 31 + 0 + 16);
        t.send(2, 0, 0, 1, 0);
        C.due("two", t.print(), (((3 * 31 + 1) * 31 + 16L) * 31 + 1) * 31 + 2 + 16);
        long want = t.print();
        for (int i = 0; i < 3; i++) {
            t.send(0, 2, 0, 1, 12);
            want = want * 31 + 3;
            for (int k = 0; k <= 12; k++) {
                want = want * 31 + k % 2 + ((12 - k) % 10 == 0 ? 16 : 0);
            }
        }
        C.due("beyond a long", t.print(), want);
    }

    private static void status() {
        C.part("promise 31");
        PacketTrail t = Checks.net(LINE);
        C.refused("1", GONE, () -> t.routeTold(9, 9));
        C.refused("2", ARG, () -> t.told(99));
        C.refused("3", ARG, () -> t.set(9, 9));
        for (int i = 0; i < 40; i++) {
            t.send(0, 0, 0, 1, 0);
        }
        for (int i = 0; i < 3; i++) {
            C.refused("full", Checks.STATE, () -> t.send(0, 0, 0, 1, 0));
        }
        t.undo();
        t.text(0);
        t.label(-1);
        C.dueAll("refusals", new long[] {t.status(0), t.status(1), t.status(2)}, 1, 2, 3);
        C.dueAll("others", new long[] {t.status(3), t.status(-1), t.status(Integer.MAX_VALUE), t.status(Integer.MIN_VALUE)}, -1, -1, -1, -1);
        C.due("told anew", Checks.tell(t, "hops 2;"), 0);
        C.dueAll("refusals stay", new long[] {t.status(0), t.status(1), t.status(2)}, 1, 2, 3);
    }

    private static void asked() {
        C.part("asked, nothing stays changed");
        PacketTrail t = fiveThousandSteps();
        long[] first = everything(t);
        C.dueAll("asked again", everything(t), first);
    }

    private static long[] everything(PacketTrail t) {
        return new long[] {t.print(), t.told(10), t.told(13), t.joints(0), t.joints(1), t.joined(1), t.label(0), t.reports(0, 2, 0),
            t.estimate(1, 0, 0), t.estimate(1, 0, 5), t.matrix(1, 3, 0), t.leastLabels(), t.clashes(9), t.bestKey(3, 0),
            t.bestMask(0), t.walk(0, 1, 3), t.walkAt(0, 7, 0), t.told(3), t.told(6), t.told(7), t.told(8)};
    }
}
