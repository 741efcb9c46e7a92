import java.util.List;

/** Promises 2 to 4 and the words of TEXT: each sentence that names an edge. */
public final class EdgesOfTextTest {
    private static final Checks C = new Checks();
    private static final int BLANKS = 0x20202020;

    public static void main(String[] args) {
        tapeIsFull();
        bytesOfNumbers();
        partOfTheTape();
        faultLeavesAll();
        rightTellsAnew();
        placeOfFault();
        fourHundredBytes();
        wordsAsManyAsStandThere();
        numbersAsManyAsStandThere();
        blanks();
        otherSigns();
        endsTooEarly();
        hops();
        links();
        cuts();
        routes();
        toldAgain();
        keyBelowBase();
        masksAndLabels();
        twentyFiveLinks();
        firstFromTheLeft();
        C.finish();
    }

    private static void text(String text, int answer, int place) {
        PacketTrail t = new PacketTrail();
        C.due("text \"" + text + "\"", Checks.tell(t, text), answer);
        C.due("fault of \"" + text + "\"", t.fault(), place);
    }

    private static void right(String text, int links) {
        text(text, links, -1);
    }

    /** The fault's kind, and its place: where the sign ^ stands. */
    private static void wrong(int kind, String marked) {
        int place = marked.indexOf('^');
        text(marked.substring(0, place) + marked.substring(place + 1), kind - 10, place);
    }

    private static String blanksTo(int length, String text) {
        return text + " ".repeat(length - text.length());
    }

    private static void tapeIsFull() {
        C.part("promise 2: NONE, doing nothing, if there would be more than 400");
        PacketTrail t = new PacketTrail();
        String text = "hops 9;" + " ".repeat(373) + "link 8 7;           ";
        C.due("bytes of the test", text.length(), 400);
        for (int n = 20; n <= 400; n += 20) {
            C.due("bytes", Checks.feed(t, text.substring(n - 20, n)), 20);
            C.due("told", t.told(9), n);
        }
        for (int i = 0; i < 3; i++) {
            C.due("no room", t.feed('x', 'x', 'x', 'x', 'x'), -1);
            C.due("as many as before", t.told(9), 400);
        }
        C.due("as it was fed", t.text(400), 1);
        C.dueAll("the last bytes", new long[] {t.told(0), t.linkTold(0, 0), t.linkTold(0, 1)}, 9, 8, 7);
        C.due("empty then", t.told(9), 0);
        for (int n = 20; n <= 400; n += 20) {
            C.due("room again", t.feed(0, 0, 0, 0, 0), n);
        }
        C.due("no room", t.feed(0, 0, 0, 0, 0), -1);
    }

    private static void bytesOfNumbers() {
        C.part("promise 2: of each number the highest first");
        PacketTrail t = new PacketTrail();
        C.due("five numbers", t.feed('h' << 24 | 'o' << 16 | 'p' << 8 | 's', '3' << 24 | ';' << 16 | 'l' << 8 | 'i',
            'n' << 24 | 'k' << 16 | '2' << 8 | ' ', '1' << 24 | ';' << 16 | ' ' << 8 | ' ', BLANKS), 20);
        C.due("text", t.text(20), 1);
        C.dueAll("net", new long[] {t.told(0), t.linkTold(0, 0), t.linkTold(0, 1)}, 3, 2, 1);
        int[] shifts = {24, 16, 8, 0};
        for (int i = 0; i < 20; i++) {
            for (int high : new int[] {0, 1, 127, 128, 255}) {
                int[] n = {BLANKS, BLANKS, BLANKS, BLANKS, BLANKS};
                n[i / 4] = n[i / 4] & ~(255 << shifts[i % 4]) | high << shifts[i % 4];
                t.feed(n[0], n[1], n[2], n[3], n[4]);
                C.due("a sign at " + i, t.text(20), -9);
                C.due("its place", t.fault(), i);
            }
        }
        C.due("least numbers", t.feed(Integer.MIN_VALUE, Integer.MIN_VALUE, -1, -1, Integer.MAX_VALUE), 20);
    }

    private static void partOfTheTape() {
        C.part("promise 3: the first n bytes of the TAPE (empty then)");
        String text = "hops 2;link 0 1;link 1 0;";
        int[] dueAt = new int[41];
        for (int n = 0; n <= 40; n++) {
            dueAt[n] = -9;
        }
        dueAt[7] = 0;
        dueAt[16] = 1;
        for (int n = 25; n <= 40; n++) {
            dueAt[n] = 2;
        }
        for (int n = 0; n <= 40; n++) {
            PacketTrail t = new PacketTrail();
            Checks.feed(t, blanksTo(40, text));
            C.due("the first " + n, t.text(n), dueAt[n]);
            C.due("empty then", t.told(9), 0);
            C.refused("nothing there", Checks.ARGUMENT, () -> t.text(1));
            C.due("nothing there, either", t.text(0), -9);
            C.due("its place", t.fault(), 0);
        }
        PacketTrail t = new PacketTrail();
        C.due("no byte was ever fed", t.text(0), -9);
        C.due("its place", t.fault(), 0);
    }

    private static PacketTrail busy() {
        PacketTrail t = Checks.net("hops 4;link 0 1;link 1 2;link 2 3;cut 1 2;route 0 3 1;route 1 3 2;base 40 30;key 20;mask 9;labels 7;");
        t.send(0, 3, 8, 9, 4);
        t.link(1, 1);
        t.route(2, 3, 2);
        t.send(0, 3, 8, 9, 4);
        t.set(3, 21);
        return t;
    }

    private static void faultLeavesAll() {
        C.part("promise 3: the FAULT less 10 (all stays)");
        String[] texts = {"", "hops 11;", "hops 9;link 0 1;link 0 1;", "hops 2;base 9 9;key 5;mask 1;labels 9;x"};
        int[] answers = {-9, -8, -6, -9};
        int[] places = {0, 5, 21, 38};
        for (int i = 0; i < texts.length; i++) {
            PacketTrail t = busy();
            C.due("text " + i, Checks.tell(t, texts[i]), answers[i]);
            C.due("place " + i, t.fault(), places[i]);
            List<Long> is = Witness.of(t);
            is.set(0, -1L);
            C.due("alike", is.equals(Witness.of(busy())) ? 1 : 0, 1);
        }
    }

    private static void rightTellsAnew() {
        C.part("promise 3: tell all anew (no PACKETS; nothing can be taken back)");
        PacketTrail t = busy();
        C.due("text", Checks.tell(t, "hops 4;link 1 0;"), 1);
        long[] want = {4, 1, 0, 7, 101, 20, 0, 16, 0, 0, 0, 0, 0, 0};
        for (int what = 0; what < want.length; what++) {
            C.due("told " + what, t.told(what), want[what]);
        }
        C.dueAll("its link", new long[] {t.linkTold(0, 0), t.linkTold(0, 1), t.linkTold(0, 2)}, 1, 0, 1);
        for (int hop = 0; hop < 4; hop++) {
            for (int dest = 0; dest < 4; dest++) {
                C.due("no route", t.routeTold(hop, dest), -1);
            }
        }
        C.refused("no packet", Checks.NO_ELEMENT, () -> t.packet(0, 0));
        C.due("nothing can be taken back", t.undo(), -1);
        C.due("hops stay", t.told(0), 4);
        C.due("print", t.print(), 0);
        PacketTrail cut = Checks.net("hops 2;link 0 1;cut 0 1;route 0 1 1;");
        C.due("the same links", Checks.tell(cut, "hops 2;link 0 1;"), 1);
        C.dueAll("up and without a route", new long[] {cut.linkTold(0, 2), cut.routeTold(0, 1)}, 1, -1);
        C.due("least", Checks.tell(cut, "hops 2;"), 0);
        C.due("links", cut.told(1), 0);
    }

    private static void placeOfFault() {
        C.part("promise 4: of the latest text(); NONE without");
        PacketTrail t = new PacketTrail();
        C.due("no text yet", t.fault(), -1);
        C.refused("refused", Checks.ARGUMENT, () -> t.text(1));
        C.due("no text yet, either", t.fault(), -1);
        C.due("fault", Checks.tell(t, "hops 2;   y"), -9);
        C.due("place", t.fault(), 10);
        C.due("asked again", t.fault(), 10);
        t.feed(0, 0, 0, 0, 0);
        t.set(4, 5);
        t.undo();
        C.due("other calls leave it", t.fault(), 10);
        C.refused("refused", Checks.ARGUMENT, () -> t.text(21));
        C.due("place, still", t.fault(), 10);
        C.due("another one", t.text(20), -9);
        C.due("its place", t.fault(), 0);
        C.due("right", Checks.tell(t, "hops 2;"), 0);
        C.due("none", t.fault(), -1);
    }

    private static void fourHundredBytes() {
        C.part("a TEXT has up to 400 bytes");
        text(blanksTo(400, "hops 2;"), 0, -1);
        text(blanksTo(399, "hops 2;") + ";", -9, 399);
        text(blanksTo(399, "hops 2;") + "l", -9, 399);
        text(blanksTo(399, "hops 2") + ";", 0, -1);
        text(blanksTo(400, "hops 2"), -9, 400);
        text(" ".repeat(400), -9, 400);
        text(" ".repeat(393) + "hops 2;", 0, -1);
        text(" ".repeat(394) + "hops 2", -9, 400);
        text(" ".repeat(396) + "hops", -9, 400);
        text(" ".repeat(397) + "hop", -9, 397);
        text("hops " + "0".repeat(393) + "2;", 0, -1);
        text("hops " + "1".repeat(394) + ";", -8, 5);
        text("h".repeat(400), -9, 0);
        text("hops 2;" + "key 0;".repeat(65) + "   ", 0, -1);
        text("hops2" + ";key0".repeat(78) + ";    ", 0, -1);
    }

    private static void wordsAsManyAsStandThere() {
        C.part("words: small letters, as many as stand there");
        wrong(1, "^hop 2;");
        wrong(1, "^hopss 2;");
        wrong(1, "^hopslink 2;");
        wrong(1, "^Hops 2;");
        wrong(1, "hops 2;^linklink 0 1;");
        wrong(1, "hops 2;^lin k 0 1;");
        wrong(1, "hops 2;^links 0 1;");
        wrong(1, "hops 2;^l");
        wrong(1, "hops 2;^hops 2;");
        for (String word : new String[] {"link", "cut", "route", "base", "key", "mask", "labels"}) {
            wrong(1, "hops 2;^" + word + "a 1 0;");
            wrong(1, "hops 2;^" + word + "z 1 0;");
            wrong(1, "hops 2;^" + word.substring(1) + " 1 0;");
            wrong(1, "hops 2;^" + word.substring(0, word.length() - 1) + " 1 0;");
            wrong(1, "hops 2;^" + word.substring(0, 1).toUpperCase() + word.substring(1) + " 1 0;");
            wrong(1, "hops 2;^" + word.substring(0, word.length() - 1) + "x 1 0;");
            wrong(1, "hops 2;^x" + word.substring(1) + " 1 0;");
            wrong(1, "hops 2;" + word + "^");
            wrong(1, "hops 2;" + word + "^;");
            wrong(1, "hops 2;" + word + " ^,");
        }
    }

    private static void numbersAsManyAsStandThere() {
        C.part("numbers: digits, as many as stand there");
        right("hops2;link0 1;", 1);
        right("hops 0002;", 0);
        right("hops 0010;link 09 00;route9 000000000000000000001 0;", 1);
        wrong(1, "hops 3;link 01^;");
        wrong(1, "hops 3;link 0 1 ^2;");
        wrong(1, "hops 3;link 0 1^x;");
        wrong(2, "hops 3;link 0 ^12;");
        wrong(2, "hops 3;link ^10 2;");
        wrong(2, "hops ^20;");
        wrong(2, "hops ^4294967298;");
        wrong(2, "hops ^18446744073709551618;");
        wrong(2, "hops 2;key ^4294967296;");
        wrong(2, "hops 2;key ^100000;");
        wrong(2, "hops 2;key ^1000000000000000000000;");
        wrong(2, "hops 2;base 997 ^4294967297;");
        wrong(2, "hops 2;labels ^65536;");
        wrong(2, "hops 2;mask ^2147483648;");
        wrong(1, "hops ^-2;");
        wrong(1, "hops ^+2;");
        wrong(1, "hops 2^.0;");
        wrong(1, "hops 2;key ^-0;");
    }

    private static void blanks() {
        C.part("blanks may stand ahead of all these and of \";\", and at the end");
        right("  hops  2  ;  link  0  1  ;  cut  0  1  ;  route  0  1  1  ;  base  9  8  ;  key  7  ;  mask  6  ;  labels  5  ;  ", 1);
        right("hops2;link0 1;cut0 1;route0 1 1;base9 8;key7;mask6;labels5;", 1);
        wrong(1, "^ho ps 2;");
        wrong(1, "hops 2 ^2;");
        wrong(1, "hops 2^\t0;");
        wrong(1, "hops 2;^\n");
        wrong(1, "hops 2; ^\r");
        wrong(1, "^\u00a0hops 2;");
        wrong(1, "^\u001fhops 2;");
        wrong(1, "^!hops 2;");
    }

    private static void otherSigns() {
        C.part("fault 1: what can't stand there");
        for (char sign = 0; sign < 256; sign++) {
            boolean letter = sign >= 'a' && sign <= 'z';
            boolean digit = sign >= '0' && sign <= '9';
            if (sign != ' ' && sign != '^') {
                PacketTrail t = new PacketTrail();
                String text = "hops 2;" + sign;
                C.due("sign " + (int) sign, Checks.tell(t, text), -9);
                C.due("its place", t.fault(), 7);
                C.due("behind a number " + (int) sign, Checks.tell(t, "hops 2" + sign + "hops"), digit ? -8 : -9);
                C.due("its place", t.fault(), digit ? 5 : sign == ';' ? 7 : 6);
                C.due("behind a word " + (int) sign, Checks.tell(t, "hops" + sign + "2;"), digit && sign != '0' ? -8 : digit ? 0 : -9);
                C.due("its place", t.fault(), digit ? sign == '0' ? -1 : 4 : letter ? 0 : 4);
            }
        }
        wrong(1, "^;");
        wrong(1, "^2;");
        wrong(1, "^link 0 1;");
        wrong(1, "hops ^;");
        wrong(1, "^hopsx 2;");
        wrong(1, "hops ^two;");
        wrong(1, "hops 2;^;");
        wrong(1, "hops 2;link 0 1;^;");
        wrong(1, "hops 2;^2;");
        wrong(1, "hops 2;link ^;");
        wrong(1, "hops 2;link 0 ^;");
        wrong(1, "hops 2;link 0 1^,");
        wrong(1, "hops 2 ^link 0 1;");
        wrong(1, "hops 2;link 0 1 ^link 1 0;");
    }

    private static void endsTooEarly() {
        C.part("fault 1: at the length, if the text ends too early");
        String[] lines = {"hops 4;", "link 0 1;", "cut 0 1;", "route 0 3 1;", "base 50 40;", "key 30;", "mask 20;", "labels 10;"};
        String whole = String.join("", lines);
        for (int n = 0; n < whole.length(); n++) {
            String text = whole.substring(0, n);
            String line = text.substring(text.lastIndexOf(';') + 1);
            boolean inWord = line.matches("[a-z]+") && !line.matches("hops|link|cut|route|base|key|mask|labels");
            boolean lineIsWhole = n > 0 && line.isEmpty();
            PacketTrail t = new PacketTrail();
            int answer = Checks.tell(t, text);
            if (lineIsWhole) {
                C.due(text, answer, n < 16 ? 0 : 1);
                C.due(text + " without", t.fault(), -1);
            } else {
                // Numbers that are cut short: "hops 4" is none, "base 5" and "labels 1" would be other ones.
                boolean shortLabels = line.equals("labels 1");
                C.due(text, answer, shortLabels ? -8 : -9);
                C.due(text + " at", t.fault(), inWord ? n - line.length() : shortLabels ? n - 1 : n);
            }
        }
    }

    private static void hops() {
        C.part("N 2 to 10");
        wrong(2, "hops ^0;");
        wrong(2, "hops ^1;");
        right("hops 2;", 0);
        right("hops 10;", 0);
        wrong(2, "hops ^11;");
        wrong(2, "hops ^1");
        for (int n = 2; n <= 10; n++) {
            C.due("hops", Checks.net("hops " + n + ";").told(0), n);
            right("hops " + n + ";link " + (n - 1) + " 0;", 1);
            wrong(2, "hops " + n + ";link ^" + n + " 0;");
            wrong(2, "hops " + n + ";link 0 ^" + n + ";");
        }
    }

    private static void links() {
        C.part("fault 2: B that is A; fault 4: a LINK told again");
        wrong(2, "hops 3;link 0 ^0;");
        wrong(2, "hops 3;link 2 ^002;");
        wrong(2, "hops 3;link ^3 3;");
        wrong(4, "hops 3;link 0 1;link ^0 1;");
        wrong(4, "hops 3;link 0 1;link   ^00 1;");
        wrong(4, "hops 3;link 0 1;cut 0 1;link^0 1;");
        wrong(4, "hops 3;link 2 1;link 0 1;link 1 0;link ^2 1;");
        right("hops 3;link 0 1;link 1 0;link 0 2;link 2 0;link 1 2;link 2 1;", 6);
    }

    private static void cuts() {
        C.part("\"cut\" by a LINK told ahead; fault 4: by one that there is not (at its A)");
        wrong(4, "hops 3;cut ^0 1;");
        wrong(4, "hops 3;cut ^0 1;link 0 1;");
        wrong(4, "hops 3;link 0 1;cut  ^1 0;");
        wrong(4, "hops 3;link 0 1;cut ^0 2;");
        wrong(2, "hops 3;link 0 1;cut ^3 1;");
        wrong(2, "hops 3;link 0 1;cut 0 ^3;");
        wrong(2, "hops 3;link 0 1;cut 0 ^0;");
        wrong(1, "hops 3;link 0 1;cut 0^;");
        PacketTrail t = Checks.net("hops 3;link 0 1;link 0 2;link 2 0;cut 0 2;cut 0 2;");
        C.dueAll("this one alone", new long[] {t.linkTold(0, 2), t.linkTold(1, 2), t.linkTold(2, 2)}, 1, 0, 1);
    }

    private static void routes() {
        C.part("\"route\" A D B: at A for D the LINK to B, told ahead; fault 2: D that is A, too");
        wrong(2, "hops 3;link 0 1;route ^3 1 1;");
        wrong(2, "hops 3;link 0 1;route 0 ^0 1;");
        wrong(2, "hops 3;link 0 1;route 0 ^3 1;");
        wrong(2, "hops 3;link 0 1;route 0 2 ^3;");
        wrong(2, "hops 3;link 0 1;route 0 2 ^0;");
        wrong(2, "hops 3;route 0 ^0 1;");
        wrong(4, "hops 3;link 0 1;route ^0 2 2;");
        wrong(4, "hops 3;link 0 1;route ^1 2 0;");
        wrong(4, "hops 3;route ^0 2 1;link 0 1;");
        wrong(1, "hops 3;link 0 1;route 0 2^;");
        PacketTrail t = Checks.net("hops 3;link 0 1;link 0 2;link 2 1;route 0 1 2;route 0 2 1;route 2 0 1;");
        C.dueAll("at 0 and 2", new long[] {t.routeTold(0, 1), t.routeTold(0, 2), t.routeTold(2, 0), t.routeTold(2, 1), t.routeTold(1, 0)}, 1, 0, 2, -1, -1);
        PacketTrail far = Checks.net("hops 10;link 9 8;route 9 0 8;route 9 8 8;");
        C.dueAll("at 9", new long[] {far.routeTold(9, 0), far.routeTold(9, 8), far.routeTold(8, 9), far.routeTold(9, 9)}, 0, 0, -1, -1);
        right("hops 3;link 0 1;cut 0 1;route 0 2 1;", 1);
    }

    private static void toldAgain() {
        C.part("what is told again counts, as told last");
        PacketTrail t = Checks.net("hops 3;link 0 1;link 0 2;route 0 2 1;route 0 1 1;route 0 2 2;base 9 9;base 8 1;key 3;key 7;mask 1;mask 30;labels 60;labels 3;");
        C.dueAll("routes", new long[] {t.routeTold(0, 2), t.routeTold(0, 1)}, 1, 0);
        C.dueAll("others", new long[] {t.told(3), t.told(4), t.told(5), t.told(6), t.told(7)}, 30, 8, 1, 7, 3);
    }

    private static void keyBelowBase() {
        C.part("BASE 2 to 997, RANGE 1 to A, KEY below BASE: as told so far, also when BASE is told");
        wrong(2, "hops 2;base ^0 1;");
        wrong(2, "hops 2;base ^1 1;");
        right("hops 2;base 2 1;", 0);
        right("hops 2;base 997 1;", 0);
        wrong(2, "hops 2;base ^998 1;");
        wrong(2, "hops 2;base 2 ^0;");
        right("hops 2;base 2 2;", 0);
        wrong(2, "hops 2;base 2 ^3;");
        right("hops 2;base 997 997;", 0);
        wrong(2, "hops 2;base 997 ^998;");
        right("hops 2;base 102 102;", 0);
        right("hops 2;base 19 19;", 0);
        right("hops 2;key 0;", 0);
        right("hops 2;key 100;", 0);
        wrong(2, "hops 2;key ^101;");
        right("hops 2;base 997 1;key 996;", 0);
        wrong(2, "hops 2;base 997 1;key ^997;");
        wrong(2, "hops 2;base 2 1;key ^2;");
        right("hops 2;base 2 1;key 1;", 0);
        wrong(2, "hops 2;key 100;base ^100 1;");
        right("hops 2;key 100;base 101 1;", 0);
        wrong(2, "hops 2;key 100;base ^50 1;base 200 1;");
        right("hops 2;key 100;key 0;base 2 1;", 0);
        wrong(2, "hops 2;key 1;key ^102;base 200 1;");
        right("hops 2;base 200 1;key 150;base 151 1;", 0);
        wrong(2, "hops 2;base 200 1;key 150;base ^150 1;");
        wrong(1, "hops 2;base 9^;");
    }

    private static void masksAndLabels() {
        C.part("MASK 1 to 31, M 2 to 64");
        wrong(2, "hops 2;mask ^0;");
        right("hops 2;mask 1;", 0);
        right("hops 2;mask 31;", 0);
        wrong(2, "hops 2;mask ^32;");
        wrong(2, "hops 2;labels ^0;");
        wrong(2, "hops 2;labels ^1;");
        right("hops 2;labels 2;", 0);
        right("hops 2;labels 64;", 0);
        wrong(2, "hops 2;labels ^65;");
    }

    private static void twentyFiveLinks() {
        C.part("fault 3: a 25th LINK (at its word)");
        StringBuilder s = new StringBuilder("hops 10;");
        for (int i = 0; i < 24; i++) {
            s.append("link").append(i % 10).append(' ').append((i % 10 + 1 + i / 10) % 10).append(';');
            right(s.toString(), i + 1);
        }
        PacketTrail t = Checks.net(s.toString());
        for (int i = 0; i < 24; i++) {
            C.dueAll("link " + i, new long[] {t.linkTold(i, 0), t.linkTold(i, 1), t.linkTold(i, 2)}, i % 10, (i % 10 + 1 + i / 10) % 10, 1);
        }
        wrong(3, s + "   ^link 4 7;");
        wrong(3, s + "^link 4 7");
        wrong(3, s + "^link4 7;cut 4 7;");
        wrong(4, s + "cut^4 7;link 4 7;");
        wrong(1, s + "^linx 4 7;");
        right(s + "cut 3 6;route 3 0 6;key 1;", 24);
        PacketTrail last = Checks.net(s + "cut 3 6;route 3 0 6;");
        C.dueAll("the 24th", new long[] {last.linkTold(23, 2), last.routeTold(3, 0)}, 0, 23);
    }

    private static void firstFromTheLeft() {
        C.part("faults, the first from the left");
        wrong(2, "hops ^1;x");
        wrong(2, "hops 2;link 0 ^0;link 0 0;");
        wrong(1, "hops 2;^x;link 0 0;");
        wrong(4, "hops 2;cut ^0 1;x");
        wrong(4, "hops 2;cut ^0 1 x");
        wrong(4, "hops 2;cut ^0 1");
        wrong(4, "hops 3;link 0 1;route ^0 1 2 3;");
        wrong(2, "hops 2;base ^1 0;");
        wrong(2, "hops 2;base 3 ^4 x");
        wrong(2, "hops 2;key ^101");
    }
}
