import java.math.BigInteger;

/** Promises 22 and 25 to 29, and the words of ESTIMATES, CLASH, UNLIKE and fractions: each sentence that names an edge. */
public final class EdgesOfNumbersTest {
    private static final Checks C = new Checks();
    private static final int NONE = -1;
    private static final String ROUND = "hops 3;link 0 1;link 1 0;link 0 2;route 0 2 1;route 1 2 0;";

    public static void main(String[] args) {
        estimatesOfNothing();
        estimatesOfHops();
        estimatesOfLinks();
        estimatesOfSizes();
        estimatesOfAll();
        mixWhereItComes();
        rangeOneAndAll();
        meanIsTruth();
        spreadOfOne();
        spreadOfManyAlike();
        byTheKeyThatIs();
        trailsAsTheyWere();
        leastLabelsFew();
        leastLabelsBetween();
        leastLabelsNone();
        unlikeEdges();
        unlikeByNumber();
        clashesEdges();
        clashesOfChosen();
        bestKeyFirst();
        bestKeyLast();
        bestKeyAtLeast();
        bestKeyOfFull();
        bestMaskLeast();
        bestMaskEach();
        bestMaskByBase();
        questionsLeaveSettings();
        C.finish();
    }

    private static long[] estimates(PacketTrail t, int what, int i) {
        long[] all = new long[7];
        for (int part = 0; part < 7; part++) {
            all[part] = t.estimate(what, i, part);
        }
        return all;
    }

    private static void estimatesOfNothing() {
        C.part("fractions are told in lowest terms, 0 by 1");
        PacketTrail t = Checks.net("hops 10;link 9 8;link 8 9;base 997 2;key 996;");
        for (int hop = 0; hop < 10; hop++) {
            C.dueAll("nobody entered at " + hop, estimates(t, 0, hop), 0, 1, 0, 0, 1, 0, 1);
        }
        for (int link = 0; link < 2; link++) {
            C.dueAll("nobody came by " + link, estimates(t, 1, link), 0, 1, 0, 0, 1, 0, 1);
            C.dueAll("no sizes by " + link, estimates(t, 2, link), 0, 1, 0, 0, 1, 0, 1);
        }
        C.dueAll("nobody", estimates(t, 3, 0), 0, 1, 0, 0, 1, 0, 1);
        PacketTrail one = Checks.net("hops 2;base 6 2;mask 4;");
        one.send(0, 0, 2, 9, 0);
        // It is chosen by two keys of six, 3 by 1 each time: 2 * 4 and 4 * 1, by 6.
        C.dueAll("one that is not chosen", estimates(one, 3, 0), 0, 1, 1, 1, 1, 2, 1);
        one.set(3, 4);
        C.dueAll("now it is", estimates(one, 3, 0), 3, 1, 1, 1, 1, 2, 1);
    }

    private static void estimatesOfHops() {
        C.part("0 PACKETS that ENTERED at a HOP");
        PacketTrail t = Checks.net("hops 10;link 0 9;link 9 0;route 0 5 9;route 9 5 0;base 7 7;");
        t.send(0, 5, 1, 1, 12);
        t.send(0, 0, 1, 1, 0);
        t.send(9, 9, 1, 1, 0);
        C.dueAll("at 0, not when it comes there again", new long[] {t.estimate(0, 0, 0), t.estimate(0, 0, 2)}, 2, 2);
        C.dueAll("at 9, not by a link", new long[] {t.estimate(0, 9, 0), t.estimate(0, 9, 2)}, 1, 1);
        C.dueAll("at 5, for which one goes", new long[] {t.estimate(0, 5, 0), t.estimate(0, 5, 2)}, 0, 0);
    }

    private static void estimatesOfLinks() {
        C.part("1 PACKETS that came by a LINK (each time they did)");
        for (int life = 0; life <= 12; life++) {
            PacketTrail t = Checks.net(ROUND + "base 7 7;");
            t.send(0, 2, 1, 9, life);
            C.dueAll("life " + life, new long[] {t.estimate(1, 0, 0), t.estimate(1, 0, 2), t.estimate(1, 1, 0), t.estimate(1, 1, 2)},
                (life + 1) / 2, (life + 1) / 2, life / 2, life / 2);
            C.dueAll("by link 2 it did not", new long[] {t.estimate(1, 2, 0), t.estimate(1, 2, 2)}, 0, 0);
        }
        PacketTrail lost = Checks.net(ROUND + "cut 0 1;base 7 7;");
        lost.send(0, 2, 1, 9, 12);
        C.dueAll("lost ahead of it", estimates(lost, 1, 0), 0, 1, 0, 0, 1, 0, 1);
    }

    private static void estimatesOfSizes() {
        C.part("2 SIZES of these together");
        PacketTrail t = Checks.net(ROUND + "base 7 7;");
        t.send(0, 2, 1, 1, 1);
        C.due("the least", t.estimate(2, 0, 2), 1);
        t.send(0, 2, 1, 200, 1);
        C.due("and the most", t.estimate(2, 0, 2), 201);
        t.send(0, 2, 1, 10, 12);
        C.dueAll("each time", new long[] {t.estimate(2, 0, 0), t.estimate(2, 0, 2), t.estimate(2, 1, 0), t.estimate(2, 1, 2)}, 261, 261, 60, 60);
        t.send(0, 0, 1, 100, 12);
        C.dueAll("not of what entered", new long[] {t.estimate(2, 0, 2), t.estimate(2, 1, 2), t.estimate(2, 2, 2)}, 261, 60, 0);
    }

    private static void estimatesOfAll() {
        C.part("3 all PACKETS (at their first HOPS; 0 in place of a HOP)");
        PacketTrail t = Checks.net(ROUND + "base 20 10;mask 16;");
        for (int i = 0; i < 40; i++) {
            t.send(i % 3, 2, i, 200, i % 13);
            C.due("truth", t.estimate(3, 0, 2), i + 1);
        }
        // LIFE 0 to 12 three times, then 0: below ten are 31 of 40; each counts two.
        C.dueAll("by first hops alone", new long[] {t.estimate(3, 0, 0), t.estimate(3, 0, 1), t.told(11)}, 62, 1, 31);
    }

    private static void mixWhereItComes() {
        C.part("of what comes by a LINK: MIX is that at the HOP to which it comes");
        PacketTrail t = Checks.net(ROUND + "base 20 5;mask 16;");
        t.send(0, 2, 0, 3, 5);
        // It comes by link 0 with LIFE 4, 2, 0, by link 1 with 3 and 1; it enters with 5, which is not below 5.
        C.dueAll("entered", new long[] {t.estimate(0, 0, 0), t.estimate(3, 0, 0)}, 0, 0);
        C.dueAll("by link 0", new long[] {t.estimate(1, 0, 0), t.estimate(2, 0, 0)}, 12, 36);
        C.dueAll("by link 1", new long[] {t.estimate(1, 1, 0), t.estimate(2, 1, 0)}, 8, 24);
        t.set(2, 4);
        C.dueAll("4 is not below 4", new long[] {t.estimate(1, 0, 0), t.estimate(2, 0, 0), t.estimate(1, 1, 0)}, 10, 30, 10);
        t.set(3, 15);
        C.dueAll("by KEY 15 it is, where it entered", new long[] {t.estimate(0, 0, 0), t.estimate(3, 0, 0), t.estimate(1, 0, 0), t.estimate(1, 1, 0)}, 5, 5, 0, 0);
    }

    private static void rangeOneAndAll() {
        C.part("A by R times what is CHOSEN");
        PacketTrail t = Checks.net("hops 2;base 997 997;mask 4;");
        for (int i = 0; i < 40; i++) {
            t.send(0, 0, i, 1, 0);
        }
        C.dueAll("all are chosen", estimates(t, 3, 0), 40, 1, 40, 40, 1, 0, 1);
        t.set(2, 1);
        // Each mix is another one: by 40 keys one is chosen, by all others none: 40 * 957 * 957 + 957 * 40 * 40, by 997.
        C.dueAll("one is chosen", estimates(t, 3, 0), 997, 1, 40, 40, 1, 40 * 957, 1);
        t.set(3, 1);
        C.dueAll("none is chosen", estimates(t, 3, 0), 0, 1, 40, 40, 1, 40 * 957, 1);
        t.set(3, 996);
        C.dueAll("the other one", estimates(t, 3, 0), 997, 1, 40, 40, 1, 40 * 957, 1);
        t.set(2, 996);
        t.set(3, 0);
        C.dueAll("by 996", new long[] {t.estimate(3, 0, 0), t.estimate(3, 0, 1), t.estimate(3, 0, 3), t.estimate(3, 0, 4)}, 40 * 997 / 4, 249, 40, 1);
    }

    private static void meanIsTruth() {
        C.part("MEAN: by all KEYS each mix is chosen R times of A, whatever A and R are");
        PacketTrail t = Checks.net(ROUND + "base 2 1;mask 31;");
        for (int i = 0; i < 30; i++) {
            t.send(i % 2, 2, i * 97, 1 + i, i % 13);
        }
        for (int base : new int[] {2, 3, 10, 101, 996, 997}) {
            t.set(2, 1);
            t.set(1, base);
            for (int range : new int[] {1, 2, base / 2, base - 1, base}) {
                t.set(2, Math.max(1, range));
                for (int what = 0; what <= 3; what++) {
                    C.dueAll(base + " by " + range + ", " + what, new long[] {t.estimate(what, 0, 3), t.estimate(what, 0, 4)}, t.estimate(what, 0, 2), 1);
                }
            }
            t.set(2, 1);
            t.set(1, 997);
        }
    }

    private static void spreadOfOne() {
        C.part("SPREAD: of the squares of these less TRUTH, together, by A");
        for (int base : new int[] {2, 3, 20, 996, 997}) {
            for (int range : new int[] {1, 2, base / 2 + 1, base - 1, base}) {
                PacketTrail t = Checks.net("hops 2;link 0 1;route 0 1 1;base " + base + " " + range + ";");
                t.send(0, 1, 77, 200, 1);
                // By R keys it is A by R less 1 too much, by the others 1 too little: (A - R) by R.
                long common = BigInteger.valueOf(base - range).gcd(BigInteger.valueOf(range)).longValue();
                C.dueAll(base + " by " + range, new long[] {t.estimate(3, 0, 5), t.estimate(3, 0, 6)}, (base - range) / common, range / common);
                C.dueAll("by a link", new long[] {t.estimate(1, 0, 5), t.estimate(1, 0, 6)}, (base - range) / common, range / common);
                long squares = 40000L * (base - range);
                common = BigInteger.valueOf(squares).gcd(BigInteger.valueOf(range)).longValue();
                C.dueAll("sizes", new long[] {t.estimate(2, 0, 5), t.estimate(2, 0, 6)}, squares / common, range / common);
            }
        }
    }

    private static void spreadOfManyAlike() {
        C.part("the greatest ESTIMATES");
        PacketTrail t = Checks.net(ROUND + "base 997 1;mask 3;");
        for (int i = 0; i < 40; i++) {
            t.send(0, 2, 9999, 200, 12);
        }
        // FROM and DEST mix to 2: by KEY 995 all are chosen.
        C.dueAll("not chosen", estimates(t, 2, 0), 0, 1, 48000, 48000, 1, 996L * 48000 * 48000, 1);
        t.set(3, 995);
        C.dueAll("chosen", estimates(t, 2, 0), 997L * 48000, 1, 48000, 48000, 1, 996L * 48000 * 48000, 1);
        C.dueAll("packets by a link", estimates(t, 1, 1), 997L * 240, 1, 240, 240, 1, 996L * 240 * 240, 1);
        C.dueAll("packets that entered", estimates(t, 0, 0), 997L * 40, 1, 40, 40, 1, 996L * 40 * 40, 1);
        t.set(2, 2);
        C.dueAll("by 997 and 2", estimates(t, 2, 0), 997L * 24000, 1, 48000, 48000, 1, 995L * 24000 * 48000, 1);
    }

    private static void byTheKeyThatIs() {
        C.part("by all KEYS (all else as it is); KEY goes round");
        PacketTrail t = Checks.net("hops 2;base 10 3;mask 4;");
        t.send(0, 0, 7, 1, 0);
        for (int key = 0; key < 10; key++) {
            t.set(3, key);
            boolean chosen = (7 + key) % 10 < 3;
            C.dueAll("key " + key, estimates(t, 3, 0), chosen ? 10 : 0, chosen ? 3 : 1, 1, 1, 1, 7, 3);
            C.due("key stays", t.told(6), key);
        }
    }

    private static void trailsAsTheyWere() {
        C.part("TRUTH: of TRAILS as they were");
        PacketTrail t = Checks.net(ROUND + "base 10 10;");
        t.send(0, 2, 7, 5, 3);
        t.link(0, 0);
        t.route(1, 2, NONE);
        C.dueAll("by link 0", estimates(t, 1, 0), 2, 1, 2, 2, 1, 0, 1);
        C.dueAll("sizes by link 1", estimates(t, 2, 1), 5, 1, 5, 5, 1, 0, 1);
        t.forget();
        C.dueAll("forgotten", estimates(t, 1, 0), 0, 1, 0, 0, 1, 0, 1);
        t.undo();
        C.due("back", t.estimate(1, 0, 2), 2);
    }

    /** One HOP's PACKETS: wide LABELS are their SIZES, MIX is NUMBER, which is 0 for those that are CHOSEN. */
    private static PacketTrail sizes(int... sizes) {
        PacketTrail t = Checks.net("hops 2;base 10 1;mask 4;");
        for (int size : sizes) {
            t.send(0, 0, 0, size, 0);
        }
        return t;
    }

    private static void leastLabelsFew() {
        C.part("promise 25: the least M (2 to 64) by which there are no CLASHES");
        C.due("a new object", new PacketTrail().leastLabels(), 2);
        C.due("one", sizes(1).leastLabels(), 2);
        C.due("odd and even", sizes(1, 2).leastLabels(), 2);
        C.due("both odd", sizes(1, 3).leastLabels(), 3);
        C.due("three can't have two labels", sizes(1, 2, 3).leastLabels(), 3);
        PacketTrail t = sizes(1, 3);
        t.set(3, 5);
        C.due("none is chosen", t.leastLabels(), 2);
        t.set(3, 0);
        t.set(4, 64);
        C.due("whatever M is", t.leastLabels(), 3);
        t.set(4, 2);
        C.dueAll("M stays", new long[] {t.leastLabels(), t.told(7)}, 3, 2);
        t.send(0, 0, 1, 1, 0);
        C.due("those that are chosen alone", t.leastLabels(), 3);
    }

    private static void leastLabelsBetween() {
        C.part("promise 25: up to 64");
        // Sizes 1 to n less one have all rests of n alike up to there, but the last clashes by all M below n.
        for (int n = 2; n <= 40; n++) {
            int[] sizes = new int[n];
            for (int i = 0; i < n; i++) {
                sizes[i] = i + 1;
            }
            C.due(n + " in a row", sizes(sizes).leastLabels(), n);
        }
        // 1 to 39 and x: M from 39 on, by which x has a rest of 0 or above 39. Up to 64 that is x itself; of 65 to 79
        // the rest by 40 to 64 is 1 to 39; of 80 it is 0 by 40.
        int[] forty = new int[40];
        for (int i = 0; i < 39; i++) {
            forty[i] = i + 1;
        }
        for (int x = 40; x <= 200; x++) {
            forty[39] = x;
            int want = x <= 64 ? x : x < 80 ? NONE : x == 80 ? 40 : least(forty);
            C.due("1 to 39 and " + x, sizes(forty).leastLabels(), want);
        }
    }

    /** Found by other means: two by two. */
    private static int least(int[] sizes) {
        for (int labels = 2; labels <= 64; labels++) {
            boolean unlike = true;
            for (int i = 0; i < sizes.length; i++) {
                for (int j = 0; j < i; j++) {
                    unlike &= (sizes[i] - sizes[j]) % labels != 0;
                }
            }
            if (unlike) {
                return labels;
            }
        }
        return NONE;
    }

    private static void leastLabelsNone() {
        C.part("promise 25: NONE: by none");
        C.due("two alike", sizes(7, 7).leastLabels(), NONE);
        C.due("two alike of three", sizes(7, 8, 7).leastLabels(), NONE);
        PacketTrail t = Checks.net("hops 2;base 2 2;mask 4;");
        t.send(0, 0, 0, 38, 0);
        t.send(0, 0, 1, 1, 0);
        C.due("37 and 1, or 38", t.leastLabels(), NONE);
        PacketTrail round = Checks.net("hops 2;base 2 2;mask 4;");
        round.send(0, 0, 0, 1, 0);
        round.send(0, 0, 269, 21, 0);
        C.due("9,974 is 1, too", round.leastLabels(), NONE);
        C.due("13 unlike ones", sizes(10, 21, 69, 71, 78, 79, 108, 111, 122, 125, 141, 175, 193).leastLabels(), NONE);
        C.due("13 others", sizes(1, 4, 15, 34, 67, 91, 93, 139, 140, 149, 151, 187, 199).leastLabels(), 64);
        C.due("and others", sizes(13, 21, 36, 42, 56, 60, 111, 136, 141, 156, 172, 189, 198).leastLabels(), 63);
    }

    private static void unlikeEdges() {
        C.part("promise 26: UNLIKE of n (0 to 10)");
        PacketTrail t = new PacketTrail();
        for (int labels = 2; labels <= 64; labels++) {
            t.set(4, labels);
            C.dueAll("of none", new long[] {t.unlike(0, false), t.unlike(0, true)}, 1, 1);
            C.dueAll("of one", new long[] {t.unlike(1, false), t.unlike(1, true)}, 1, 1);
            C.dueAll("of two", new long[] {t.unlike(2, false), t.unlike(2, true)}, labels - 1, labels);
            if (labels < 10) {
                C.due("as many as there are", t.unlike(labels, false) > 0 ? 1 : 0, 1);
                for (int n = labels + 1; n <= 10; n++) {
                    C.dueAll("more than there are", new long[] {t.unlike(n, false), t.unlike(n, true)}, 0, 1);
                }
            }
            C.refused("11", Checks.ARGUMENT, () -> t.unlike(11, true));
            C.refused("below 0", Checks.ARGUMENT, () -> t.unlike(-1, false));
        }
        C.due("refused", t.status(1), 126);
    }

    private static void unlikeByNumber() {
        C.part("promise 26: numbers");
        PacketTrail t = new PacketTrail();
        t.set(4, 3);
        C.dueAll("3 of 3: 6 by 27", new long[] {t.unlike(3, false), t.unlike(3, true)}, 2, 9);
        t.set(4, 10);
        C.dueAll("10 of 10: 3,628,800 by 10 to the tenth", new long[] {t.unlike(10, false), t.unlike(10, true)}, 567, 1562500);
        t.set(4, 9);
        C.dueAll("9 of 9: 362,880 by 9 to the ninth", new long[] {t.unlike(9, false), t.unlike(9, true)}, 4480, 4782969);
        t.set(4, 64);
        // In 64 * 63 .. 55 there is 2 thirteen times (64, 62, 60, 58, 56): of 2 to the 60th 2 to the 47th is left.
        C.due("10 of 64", t.unlike(10, true), 1L << 47);
        C.due("10 of 64", t.unlike(10, false), 63L * 31 * 61 * 15 * 59 * 29 * 57 * 7 * 55);
        t.set(4, 61);
        long ways = 60L * 59 * 58 * 57 * 56 * 55 * 54 * 53 * 52;
        C.dueAll("10 of 61", new long[] {t.unlike(10, false), t.unlike(10, true)}, ways, (long) 61 * 61 * 61 * 61 * 61 * 61 * 61 * 61 * 61);
    }

    private static void clashesEdges() {
        C.part("promise 27: CLASHES, were M another one (2 to 64)");
        PacketTrail t = sizes(1, 65, 64, 129);
        // Less 1: 0, 64, 63, 128.
        C.dueAll("of 64: 1, 65 and 129", new long[] {t.clashes(64), t.clashes(2), t.clashes(63), t.clashes(62)}, 3, 3, 1, 0);
        C.dueAll("M stays, so does what is by it", new long[] {t.told(7), t.told(13), t.clashes(16)}, 16, 3, 3);
        C.refused("1", Checks.ARGUMENT, () -> t.clashes(1));
        C.refused("65", Checks.ARGUMENT, () -> t.clashes(65));
        C.dueAll("without packets", new long[] {new PacketTrail().clashes(2), new PacketTrail().clashes(64)}, 0, 0);
        int[] alike = new int[40];
        for (int n = 1; n <= 40; n++) {
            alike[n - 1] = 1;
            C.dueAll(n + " alike", new long[] {sizes(java.util.Arrays.copyOf(alike, n)).clashes(2), sizes(java.util.Arrays.copyOf(alike, n)).clashes(64)},
                n * (n - 1) / 2, n * (n - 1) / 2);
        }
    }

    private static void clashesOfChosen() {
        C.part("CLASH: two PACKETS that are CHOSEN at their first HOPS and have the same LABEL");
        PacketTrail t = Checks.net(ROUND + "base 20 5;mask 16;labels 2;");
        t.send(0, 2, 0, 1, 4);
        t.send(0, 2, 0, 1, 5);
        C.dueAll("the second one is chosen later", new long[] {t.told(13), t.clashes(2), t.told(11)}, 0, 0, 1);
        t.send(0, 2, 0, 1, 0);
        C.dueAll("the first and the third", new long[] {t.told(13), t.clashes(2), t.clashes(64)}, 1, 1, 1);
        t.send(0, 2, 0, 3, 1);
        C.dueAll("another wide label", new long[] {t.told(13), t.clashes(2), t.clashes(64)}, 3, 3, 1);
        t.set(2, 6);
        C.dueAll("all four", new long[] {t.told(13), t.clashes(2), t.clashes(64)}, 6, 6, 3);
        t.set(3, 14);
        C.dueAll("none", new long[] {t.told(13), t.clashes(2)}, 0, 0);
        t.set(3, 15);
        C.dueAll("LIFE 5 goes round to 0", new long[] {t.told(11), t.told(13)}, 1, 0);
    }

    private static void bestKeyFirst() {
        C.part("promise 28: the one with the fewest CLASHES, of alike ones the first");
        PacketTrail t = Checks.net("hops 2;base 10 4;mask 4;labels 2;");
        t.send(0, 0, 0, 1, 0);
        t.send(0, 0, 1, 2, 0);
        t.send(0, 0, 2, 1, 0);
        t.send(0, 0, 3, 2, 0);
        // LABELS: SIZE and NUMBER, modulo 2: 1, 1, 1, 1. By KEY 0 all four: 6; by KEY k up to 4: 4 - k of them.
        C.dueAll("0: one by KEY 3, none by KEY 4", best(t, 0), 3, 0);
        C.dueAll("1: one by KEY 3, by KEY 7", best(t, 1), 3, 0);
        C.dueAll("2", best(t, 2), 2, 1);
        C.dueAll("3", best(t, 3), 1, 3);
        C.dueAll("4", best(t, 4), 0, 6);
        C.dueAll("5", best(t, 5), NONE, NONE);
        t.set(4, 3);
        // Now 37 * NUMBER is NUMBER: 1, 0, 0, 2. By KEYS 0 to 2: all; 1, 0, 0; 1, 0.
        C.dueAll("by 3 labels, 2", best(t, 2), 2, 0);
        C.dueAll("by 3 labels, 3: the first, though it is more", best(t, 3), 0, 1);
        C.dueAll("by 3 labels, 4", best(t, 4), 0, 1);
    }

    private static long[] best(PacketTrail t, int least) {
        return new long[] {t.bestKey(least, 0), t.bestKey(least, 1)};
    }

    private static void bestKeyLast() {
        C.part("promise 28: KEYS 0 to A less 1");
        PacketTrail t = Checks.net("hops 2;base 997 1;mask 4;");
        t.send(0, 0, 1, 1, 0);
        C.dueAll("the last key alone", best(t, 1), 996, 0);
        t.send(0, 0, 998, 1, 0);
        // 998 mixes to 1, too; LABELS: 38 and 36,927 less 29,919, modulo 16.
        C.dueAll("two of it", best(t, 2), 996, 0);
        C.dueAll("none chosen", best(t, 0), 0, 0);
        t.forget();
        t.send(0, 0, 0, 1, 0);
        C.dueAll("the first key alone", best(t, 1), 0, 0);
        C.dueAll("the first key without", best(t, 0), 0, 0);
        t.send(0, 0, 997, 1, 0);
        C.dueAll("both by the first", best(t, 2), 0, 0);
        t.send(0, 0, 0, 1, 0);
        C.dueAll("a clash by the first: the second without", best(t, 0), 1, 0);
        PacketTrail two = Checks.net("hops 2;base 2 1;mask 4;key 1;");
        two.send(0, 0, 0, 1, 0);
        two.send(0, 0, 0, 1, 0);
        C.dueAll("of two keys the one by which none is chosen", best(two, 0), 1, 0);
        C.dueAll("of two keys the other one", best(two, 1), 0, 1);
        C.dueAll("of two keys the other one", best(two, 2), 0, 1);
        C.dueAll("three are never chosen", best(two, 3), NONE, NONE);
        C.due("KEY stays", two.told(6), 1);
    }

    private static void bestKeyAtLeast() {
        C.part("promise 28: so many PACKETS at least (0 to 40)");
        PacketTrail t = Checks.net("hops 2;base 100 50;mask 4;labels 64;");
        C.dueAll("without packets 0", best(t, 0), 0, 0);
        C.dueAll("without packets 1", best(t, 1), NONE, NONE);
        for (int i = 0; i < 40; i++) {
            t.send(0, 0, 2 * i, 1, 0);
        }
        // NUMBERS 0, 2 .. 78 and RANGE 50: 25 in a row. LABELS are 10 more each time, modulo 64: alike are those 32 apart.
        C.dueAll("25", best(t, 25), 0, 0);
        C.dueAll("26: more than RANGE has room for", best(t, 26), NONE, NONE);
        C.dueAll("40", best(t, 40), NONE, NONE);
        C.refused("41", Checks.ARGUMENT, () -> t.bestKey(41, 1));
        C.refused("below 0", Checks.ARGUMENT, () -> t.bestKey(-1, 1));
        C.refused("what", Checks.ARGUMENT, () -> t.bestKey(40, 2));
        C.due("refused", t.status(1), 3);
    }

    private static void bestKeyOfFull() {
        C.part("promise 28: 40 of 40");
        PacketTrail t = Checks.net("hops 2;base 100 79;mask 4;labels 64;");
        for (int i = 0; i < 40; i++) {
            t.send(0, 0, 2 * i, 1, 0);
        }
        C.dueAll("just so", new long[] {t.bestKey(40, 0), t.bestKey(40, 1), t.told(11)}, 0, t.told(13), 40);
        t.set(2, 78);
        C.dueAll("not quite", best(t, 40), NONE, NONE);
        t.set(2, 100);
        C.due("by any key", t.bestKey(40, 0), 0);
        t.set(2, 80);
        C.dueAll("by KEY 0 or 1: the first", new long[] {t.bestKey(40, 0), t.set(3, 1), t.told(11)}, 0, 0, 40);
    }

    private static void bestMaskLeast() {
        C.part("promise 29: of alike ones the least");
        PacketTrail t = Checks.net("hops 10;base 997 1;mask 31;key 996;");
        C.dueAll("without packets", bestMask(t), 1, 0);
        t.send(9, 9, 9999, 200, 12);
        C.dueAll("one", bestMask(t), 1, 1);
        t.send(9, 9, 9999, 200, 0);
        C.dueAll("LIFE does not tell them apart", bestMask(t), 1, 1);
        t.send(9, 9, 9999, 199, 0);
        C.dueAll("SIZE does", bestMask(t), 8, 2);
        t.send(9, 9, 9998, 199, 0);
        C.dueAll("NUMBER and SIZE", bestMask(t), 12, 3);
        t.send(8, 9, 9998, 199, 0);
        C.dueAll("FROM, NUMBER, SIZE", bestMask(t), 13, 4);
        t.send(8, 8, 9998, 199, 0);
        C.dueAll("all four", bestMask(t), 15, 5);
        C.dueAll("MASK and KEY stay", new long[] {t.told(3), t.told(6)}, 31, 996);
    }

    private static long[] bestMask(PacketTrail t) {
        return new long[] {t.bestMask(0), t.bestMask(1)};
    }

    private static void bestMaskEach() {
        C.part("promise 29: each MASK without LIFE (1 to 15) may be the one");
        for (int mask = 1; mask <= 15; mask++) {
            PacketTrail t = Checks.net("hops 10;base 997 1;mask 16;");
            t.send(4, 4, 4, 4, 4);
            for (int field = 0; field < 4; field++) {
                if ((mask & 1 << field) != 0) {
                    t.send(field == 0 ? 5 : 4, field == 1 ? 5 : 4, field == 2 ? 5 : 4, field == 3 ? 5 : 4, 4);
                }
            }
            C.dueAll("fields " + mask, bestMask(t), mask, Integer.bitCount(mask) + 1);
        }
    }

    private static void bestMaskByBase() {
        C.part("promise 29: MIXES are modulo A");
        PacketTrail t = Checks.net("hops 2;base 997 1;mask 16;");
        for (int i = 0; i < 40; i++) {
            t.send(0, 0, i, 1, 0);
        }
        C.dueAll("40", bestMask(t), 4, 40);
        t.set(1, 39);
        C.dueAll("39 and 0 are alike", bestMask(t), 4, 39);
        t.set(1, 40);
        C.dueAll("40 of 40", bestMask(t), 4, 40);
        t.set(1, 2);
        C.dueAll("two at most", bestMask(t), 4, 2);
        PacketTrail atFirst = Checks.net(ROUND + "base 997 1;mask 16;");
        atFirst.send(0, 2, 1, 1, 12);
        atFirst.send(0, 2, 1, 1, 11);
        C.dueAll("at their first hops", bestMask(atFirst), 1, 1);
        PacketTrail chosen = Checks.net("hops 2;base 997 1;mask 4;");
        chosen.send(0, 0, 500, 1, 0);
        chosen.send(0, 0, 501, 1, 0);
        C.dueAll("whether or not they are chosen", bestMask(chosen), 4, 2);
    }

    private static void questionsLeaveSettings() {
        C.part("asked, nothing stays changed");
        PacketTrail t = Checks.net(ROUND + "base 50 20;mask 21;key 7;labels 9;");
        for (int i = 0; i < 40; i++) {
            t.send(i % 2, 2, i * 7, 1 + i, i % 13);
        }
        long[] first = all(t);
        C.dueAll("again", all(t), first);
        C.dueAll("settings", new long[] {t.told(3), t.told(4), t.told(5), t.told(6), t.told(7), t.told(8)}, 21, 50, 20, 7, 9, 12);
    }

    private static long[] all(PacketTrail t) {
        return new long[] {t.bestMask(0), t.leastLabels(), t.bestKey(9, 0), t.clashes(2), t.estimate(1, 0, 0), t.estimate(2, 1, 5),
            t.told(13), t.unlike(5, false), t.clashes(64), t.told(11), t.estimate(3, 0, 1), t.bestMask(1), t.bestKey(0, 1), t.told(10), t.print()};
    }
}
