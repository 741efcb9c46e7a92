import java.util.Arrays;
import java.util.NoSuchElementException;

/** Packets that go through a net of hops, and what is known of them by those that a hash chooses. */
public final class PacketTrail {
    public static final int NONE = -1;

    private static final int MOST_HOPS = 10;
    private static final int MOST_LINKS = 24;
    private static final int MOST_PACKETS = 40;
    private static final int MOST_LIFE = 12;
    private static final int MOST_REPORTS = MOST_PACKETS * (MOST_LIFE + 1);
    private static final int MOST_BYTES = 400;
    private static final int MOST_UNDOS = 12;
    private static final int MOST_BASE = 997;
    private static final int LEAST_LABELS = 2;
    private static final int MOST_LABELS = 64;
    private static final int MOST_STEPS = 5000;

    /** The settings, by the numbers that set() has for them. */
    private static final int MASK = 0;
    private static final int BASE = 1;
    private static final int RANGE = 2;
    private static final int KEY = 3;
    private static final int LABELS = 4;
    private static final int SETTINGS = 5;

    private static final int ARRIVED = 0;
    private static final int STRAYED = 1;
    private static final int LOST = 2;
    private static final int SPENT = 3;

    private static final int FAULT_FORM = 1;
    private static final int FAULT_NUMBER = 2;
    private static final int FAULT_LINKS = 3;
    private static final int FAULT_LINK = 4;

    /** What is answered in place of JOINTS or of a number of WALKS. */
    private static final int UNKNOWN = -2;
    private static final int BROKEN = -3;

    /** The estimates, by the numbers that estimate() has for them. */
    private static final int OF_HOP = 0;
    private static final int OF_LINK = 1;
    private static final int OF_SIZES = 2;
    private static final int OF_ALL = 3;

    private final byte[] tape;
    private int tapeLength;
    private int faultPlace;
    private State state;
    private final State[] history;
    private int historyLength;
    private final int[] refused;
    private final Joiner joiner;
    private final Firsts firsts;
    private final Sample sample;

    public PacketTrail() {
        tape = new byte[MOST_BYTES];
        faultPlace = NONE;
        state = new State(new Net());
        history = new State[MOST_UNDOS];
        refused = new int[3];
        joiner = new Joiner();
        firsts = new Firsts();
        sample = new Sample();
    }

    // What is told, and what happens.

    public int feed(int a, int b, int c, int d, int e) {
        if (tapeLength + 20 > MOST_BYTES) {
            return NONE;
        }
        putOnTape(a);
        putOnTape(b);
        putOnTape(c);
        putOnTape(d);
        putOnTape(e);
        return tapeLength;
    }

    public int text(int n) throws IllegalArgumentException {
        require(n >= 0 && n <= tapeLength);
        Reader reader = new Reader(tape, n);
        boolean right = reader.readAll();
        tapeLength = 0;
        faultPlace = reader.faultPlace;
        if (!right) {
            return reader.faultKind - 10;
        }
        state = new State(reader.net);
        historyLength = 0;
        return state.net.links;
    }

    public int fault() {
        return faultPlace;
    }

    public int send(int from, int dest, int number, int size, int life)
            throws IllegalArgumentException, IllegalStateException {
        require(state.net.hasHop(from) && state.net.hasHop(dest));
        require(number >= 0 && number <= 9999 && size >= 1 && size <= 200);
        require(life >= 0 && life <= MOST_LIFE);
        refuseWhenFull();
        keepState();
        Packet packet = new Packet(from, dest, number, size, life);
        packet.follow(state.net);
        state.add(packet);
        return state.count - 1;
    }

    public int forget() {
        int were = state.count;
        keepState();
        state.count = 0;
        return were;
    }

    public boolean link(int link, int up) throws NoSuchElementException, IllegalArgumentException {
        find(state.net.hasLink(link));
        require(up == 0 || up == 1);
        keepState();
        boolean otherwise = state.net.ups[link] != up;
        state.net.ups[link] = up;
        return otherwise;
    }

    public int route(int hop, int dest, int link) throws NoSuchElementException, IllegalArgumentException {
        find(state.net.hasHop(hop) && state.net.hasHop(dest));
        find(link == NONE || state.net.hasLink(link));
        require(hop != dest);
        require(link == NONE || state.net.starts[link] == hop);
        keepState();
        int place = hop * MOST_HOPS + dest;
        int was = state.net.routes[place];
        state.net.routes[place] = link;
        return was;
    }

    public int set(int what, int v) throws IllegalArgumentException {
        require(what >= 0 && what < SETTINGS);
        require(state.net.fits(what, v));
        require(what != BASE || v >= state.net.settings[RANGE]);
        keepState();
        int was = state.net.settings[what];
        state.net.settings[what] = v;
        return was;
    }

    public int undo() {
        if (historyLength == 0) {
            return NONE;
        }
        historyLength--;
        state = history[historyLength];
        return historyLength;
    }

    // What there is.

    public int told(int what) throws IllegalArgumentException {
        require(what >= 0 && what <= 13);
        Net net = state.net;
        switch (what) {
            case 0: return net.hops;
            case 1: return net.links;
            case 2: return state.count;
            case 3: return net.settings[MASK];
            case 4: return net.settings[BASE];
            case 5: return net.settings[RANGE];
            case 6: return net.settings[KEY];
            case 7: return net.settings[LABELS];
            case 8: return historyLength;
            case 9: return tapeLength;
            case 10: return state.countReports();
            case 11: return chosenAtFirst();
            case 12: return state.countPartlyChosen();
            default: return clashesAmong(net.settings[LABELS]);
        }
    }

    public int linkTold(int link, int what) throws NoSuchElementException, IllegalArgumentException {
        find(state.net.hasLink(link));
        require(what >= 0 && what <= 2);
        switch (what) {
            case 0: return state.net.starts[link];
            case 1: return state.net.ends[link];
            default: return state.net.ups[link];
        }
    }

    public int routeTold(int hop, int dest) throws NoSuchElementException {
        find(state.net.hasHop(hop) && state.net.hasHop(dest));
        return state.net.routes[hop * MOST_HOPS + dest];
    }

    public int packet(int packet, int what) throws NoSuchElementException, IllegalArgumentException {
        find(state.hasPacket(packet));
        require(what >= 0 && what <= 8);
        Packet asked = state.sent[packet];
        switch (what) {
            case 0: return asked.from;
            case 1: return asked.dest;
            case 2: return asked.number;
            case 3: return asked.size;
            case 4: return asked.life;
            case 5: return asked.fate;
            case 6: return asked.length;
            case 7: return state.net.labelOf(asked);
            default: return state.net.countChosen(asked);
        }
    }

    public int trail(int packet, int k, int what) throws NoSuchElementException, IllegalArgumentException {
        find(state.hasPacket(packet));
        Packet asked = state.sent[packet];
        find(k >= 0 && k < asked.length);
        require(what >= 0 && what <= 4);
        switch (what) {
            case 0: return asked.hops[k];
            case 1: return asked.links[k];
            case 2: return asked.life - k;
            case 3: return state.net.mixOf(asked, k);
            default: return state.net.chooses(asked, k) ? 1 : 0;
        }
    }

    public int reports(int label, int hop, int link) throws NoSuchElementException, IllegalArgumentException {
        find(state.net.hasHop(hop));
        find(link == NONE || state.net.hasLink(link));
        require(isLabel(label));
        require(link == NONE || state.net.ends[link] == hop);
        joiner.gather(state, label);
        return link == NONE ? joiner.entered[hop] : joiner.came[link];
    }

    public int label(int k) {
        int before = 0;
        for (int label = 0; label < state.net.settings[LABELS]; label++) {
            joiner.gather(state, label);
            if (joiner.hasReports()) {
                if (before == k) {
                    return label;
                }
                before++;
            }
        }
        return NONE;
    }

    // Walks.

    public int joints(int label) throws IllegalArgumentException {
        require(isLabel(label));
        joiner.gather(state, label);
        joiner.join(state.net);
        return joiner.sets;
    }

    public int walk(int label, int k, int what) throws NoSuchElementException, IllegalArgumentException {
        require(isLabel(label));
        require(what >= 0 && what <= 3);
        joiner.gather(state, label);
        joiner.join(state.net);
        if (what == 0) {
            return walksOrWhyNone();
        }
        find(joiner.sets > 0 && k >= 0 && k < joiner.walks);
        switch (what) {
            case 1: return joiner.walkHops[k];
            case 2: return joiner.walkLengths[k];
            default: return joiner.lastHop(state.net, k);
        }
    }

    public int walkAt(int label, int k, int i) throws NoSuchElementException, IllegalArgumentException {
        require(isLabel(label));
        joiner.gather(state, label);
        joiner.join(state.net);
        find(joiner.sets > 0 && k >= 0 && k < joiner.walks);
        find(i >= 0 && i < joiner.walkLengths[k]);
        return joiner.linkOfWalk(k, i);
    }

    public int joined(int what) throws IllegalArgumentException {
        require(what >= 0 && what <= 4);
        int count = 0;
        for (int label = 0; label < state.net.settings[LABELS]; label++) {
            joiner.gather(state, label);
            if (joiner.hasReports()) {
                joiner.join(state.net);
                count += isJoinedAs(what, label) ? 1 : 0;
            }
        }
        return count;
    }

    // Fractions.

    public long estimate(int what, int i, int part) throws NoSuchElementException, IllegalArgumentException {
        require(what >= OF_HOP && what <= OF_ALL);
        require(part >= 0 && part <= 6);
        find(isCounted(what, i));
        weigh(what, i);
        long base = state.net.settings[BASE];
        long range = state.net.settings[RANGE];
        switch (part) {
            case 0:
            case 1: return reduced(base * sample.chosenBy(state.net.settings[KEY]), range, part == 1);
            case 2: return sample.total;
            case 3:
            case 4: return reduced(sample.sumOverKeys(false), range, part == 4);
            default: return reduced(sample.sumOverKeys(true), base * range * range, part == 6);
        }
    }

    public long matrix(int from, int to, int part) throws NoSuchElementException, IllegalArgumentException {
        find(state.net.hasHop(from) && state.net.hasHop(to));
        require(part >= 0 && part <= 2);
        if (part == 2) {
            return state.countTrails(from, to);
        }
        long walks = sureWalks(from, to);
        return reduced(state.net.settings[BASE] * walks, state.net.settings[RANGE], part == 1);
    }

    public int fates(int fate) throws IllegalArgumentException {
        require(fate >= ARRIVED && fate <= SPENT);
        return state.countFates(fate);
    }

    // Labels, keys and masks.

    public int leastLabels() {
        firsts.gather(state, state.net.settings[MASK]);
        for (int labels = LEAST_LABELS; labels <= MOST_LABELS; labels++) {
            if (firsts.clashesBy(state.net.settings[KEY], labels) == 0) {
                return labels;
            }
        }
        return NONE;
    }

    public long unlike(int n, boolean lower) throws IllegalArgumentException {
        require(n >= 0 && n <= 10);
        long labels = state.net.settings[LABELS];
        long ways = 1;
        long all = 1;
        for (int i = 0; i < n; i++) {
            ways *= labels - i;
            all *= labels;
        }
        return reduced(ways, all, lower);
    }

    public int clashes(int labels) throws IllegalArgumentException {
        require(labels >= LEAST_LABELS && labels <= MOST_LABELS);
        return clashesAmong(labels);
    }

    public int bestKey(int least, int what) throws IllegalArgumentException {
        require(least >= 0 && least <= MOST_PACKETS);
        require(what == 0 || what == 1);
        firsts.gather(state, state.net.settings[MASK]);
        int best = NONE;
        int fewest = NONE;
        for (int key = 0; key < state.net.settings[BASE]; key++) {
            if (firsts.chosenBy(key) >= least) {
                int clashes = firsts.clashesBy(key, state.net.settings[LABELS]);
                if (best == NONE || clashes < fewest) {
                    best = key;
                    fewest = clashes;
                }
            }
        }
        return what == 0 ? best : fewest;
    }

    public int bestMask(int what) throws IllegalArgumentException {
        require(what == 0 || what == 1);
        int best = NONE;
        int most = NONE;
        for (int mask = 1; mask <= 15; mask++) {
            firsts.gather(state, mask);
            int unlike = firsts.unlikeMixes();
            if (unlike > most) {
                best = mask;
                most = unlike;
            }
        }
        return what == 0 ? best : most;
    }

    public long print() {
        long sum = 0;
        for (int i = 0; i < state.count; i++) {
            Packet packet = state.sent[i];
            sum = 31 * sum + packet.fate;
            for (int place = 0; place < packet.length; place++) {
                int extra = state.net.chooses(packet, place) ? 16 : 0;
                sum = 31 * sum + packet.hops[place] + extra;
            }
        }
        return sum;
    }

    public int status(int what) {
        return what >= 0 && what < refused.length ? refused[what] : NONE;
    }

    // Refusals: they are counted here and nowhere else.

    private void find(boolean there) {
        if (!there) {
            refused[0]++;
            throw new NoSuchElementException("no such hop, link, packet or place");
        }
    }

    private void require(boolean asTold) {
        if (!asTold) {
            refused[1]++;
            throw new IllegalArgumentException("an argument is not as told");
        }
    }

    private void refuseWhenFull() {
        if (state.count >= MOST_PACKETS) {
            refused[2]++;
            throw new IllegalStateException("there are 40 packets");
        }
    }

    private void putOnTape(int number) {
        for (int shift = 24; shift >= 0 && tapeLength < MOST_BYTES; shift -= 8) {
            tape[tapeLength] = (byte) (number >> shift);
            tapeLength++;
        }
    }

    /** The state is kept for undo(), and goes on as a copy that may be changed. */
    private void keepState() {
        if (historyLength == MOST_UNDOS) {
            System.arraycopy(history, 1, history, 0, MOST_UNDOS - 1);
            historyLength--;
        }
        history[historyLength] = state;
        historyLength++;
        state = new State(state);
    }

    private boolean isLabel(int label) {
        return label >= 0 && label < state.net.settings[LABELS];
    }

    private int chosenAtFirst() {
        firsts.gather(state, state.net.settings[MASK]);
        return firsts.chosenBy(state.net.settings[KEY]);
    }

    private int clashesAmong(int labels) {
        firsts.gather(state, state.net.settings[MASK]);
        return firsts.clashesBy(state.net.settings[KEY], labels);
    }

    private int walksOrWhyNone() {
        if (joiner.sets == UNKNOWN) {
            return UNKNOWN;
        }
        return joiner.sets == 0 ? BROKEN : joiner.walks;
    }

    /** Whether the label whose reports were joined just now counts for joined(what). */
    private boolean isJoinedAs(int what, int label) {
        switch (what) {
            case 0: return joiner.sets == 1;
            case 1: return joiner.sets > 1;
            case 2: return joiner.sets == 0;
            case 3: return joiner.sets == UNKNOWN;
            default: return joiner.sets == 1 && walksAreTrails(label);
        }
    }

    /** There are as many walks as packets of the label chosen at first: so each needs to find one of its own. */
    private boolean walksAreTrails(int label) {
        joiner.releaseWalks();
        for (int i = 0; i < state.count; i++) {
            Packet packet = state.sent[i];
            boolean counts = state.net.labelOf(packet) == label && state.net.chooses(packet, 0);
            if (counts && !joiner.claimWalk(packet)) {
                return false;
            }
        }
        return true;
    }

    private long sureWalks(int from, int to) {
        long count = 0;
        for (int label = 0; label < state.net.settings[LABELS]; label++) {
            joiner.gather(state, label);
            joiner.join(state.net);
            if (joiner.sets == 1) {
                count += joiner.countWalks(state.net, from, to);
            }
        }
        return count;
    }

    private boolean isCounted(int what, int i) {
        switch (what) {
            case OF_HOP: return state.net.hasHop(i);
            case OF_ALL: return i == 0;
            default: return state.net.hasLink(i);
        }
    }

    private void weigh(int what, int i) {
        Net net = state.net;
        sample.clear(net.settings[BASE], net.settings[RANGE]);
        for (int n = 0; n < state.count; n++) {
            Packet packet = state.sent[n];
            int weight = what == OF_SIZES ? packet.size : 1;
            for (int place = 0; place < packet.length; place++) {
                if (packet.isCountedAt(place, what, i)) {
                    sample.add(net.bareMix(packet, place, net.settings[MASK]), weight);
                }
            }
        }
    }

    /** The upper or the lower number of a fraction in lowest terms; lower is above 0. */
    private static long reduced(long upper, long lower, boolean wantsLower) {
        long common = commonDivisor(upper, lower);
        if (common == 0) {
            return 0;
        }
        return (wantsLower ? lower : upper) / common;
    }

    private static long commonDivisor(long a, long b) {
        long x = a;
        long y = b;
        // Euclid needs fewer than a hundred turns for any two longs.
        for (int turn = 0; turn < 100 && y != 0; turn++) {
            long rest = x % y;
            x = y;
            y = rest;
        }
        return x;
    }

    /** A packet as it was sent, with the trail that it took then. */
    private static final class Packet {
        final int from;
        final int dest;
        final int number;
        final int size;
        final int life;
        /** What its label is before it is taken modulo the number of labels. */
        final int wideLabel;
        /** The hops of its trail, and by which link it came to each (NONE to the first). */
        final int[] hops;
        final int[] links;
        int length;
        int fate;

        Packet(int from, int dest, int number, int size, int life) {
            this.from = from;
            this.dest = dest;
            this.number = number;
            this.size = size;
            this.life = life;
            int most = life >= 0 && life <= MOST_LIFE ? life + 1 : 1;
            hops = new int[most];
            links = new int[most];
            int sum = from % 9973;
            sum = (37 * sum + dest) % 9973;
            sum = (37 * sum + number) % 9973;
            wideLabel = (37 * sum + size) % 9973;
        }

        void follow(Net net) {
            int hop = from;
            int came = NONE;
            for (int place = 0; place < hops.length; place++) {
                hops[place] = hop;
                links[place] = came;
                length = place + 1;
                int next = hop == dest ? NONE : net.routes[hop * MOST_HOPS + dest];
                fate = fateAt(net, hop, next);
                if (fate != SPENT || place == life) {
                    return;
                }
                came = next;
                hop = net.ends[next];
            }
        }

        /** SPENT here says only that nothing but a want of life can keep it from going on. */
        private int fateAt(Net net, int hop, int next) {
            if (hop == dest) {
                return ARRIVED;
            }
            if (next == NONE) {
                return STRAYED;
            }
            return net.ups[next] == 0 ? LOST : SPENT;
        }

        int fieldAt(int field, int place) {
            switch (field) {
                case 0: return from;
                case 1: return dest;
                case 2: return number;
                case 3: return size;
                default: return life - place;
            }
        }

        boolean isCountedAt(int place, int what, int i) {
            switch (what) {
                case OF_HOP: return place == 0 && from == i;
                case OF_ALL: return place == 0;
                default: return place > 0 && links[place] == i;
            }
        }
    }

    /** All that a text tells: hops, links, routes and settings. */
    private static final class Net {
        int hops;
        int links;
        /** From where to where links go: copies share them, as only a text changes them. */
        final int[] starts;
        final int[] ends;
        final int[] ups;
        /** The link at hop h for dest d stands at h * MOST_HOPS + d. */
        final int[] routes;
        final int[] settings;

        Net() {
            hops = 2;
            starts = new int[MOST_LINKS];
            ends = new int[MOST_LINKS];
            ups = new int[MOST_LINKS];
            routes = new int[MOST_HOPS * MOST_HOPS];
            Arrays.fill(routes, NONE);
            settings = new int[SETTINGS];
            settings[MASK] = 7;
            settings[BASE] = 101;
            settings[RANGE] = 20;
            settings[KEY] = 0;
            settings[LABELS] = 16;
        }

        Net(Net other) {
            hops = other.hops;
            links = other.links;
            starts = other.starts;
            ends = other.ends;
            ups = other.ups.clone();
            routes = other.routes.clone();
            settings = other.settings.clone();
        }

        boolean hasHop(int hop) {
            return hop >= 0 && hop < hops;
        }

        boolean hasLink(int link) {
            return link >= 0 && link < links;
        }

        void addLink(int from, int to) {
            if (links < MOST_LINKS) {
                starts[links] = from;
                ends[links] = to;
                ups[links] = 1;
                links++;
            }
        }

        int linkBetween(int from, int to) {
            for (int i = 0; i < links; i++) {
                if (starts[i] == from && ends[i] == to) {
                    return i;
                }
            }
            return NONE;
        }

        /** Whether a setting may have this value beside the others; BASE is not held against RANGE here. */
        boolean fits(int what, int v) {
            switch (what) {
                case MASK: return v >= 1 && v <= 31;
                case BASE: return v >= 2 && v <= MOST_BASE && v > settings[KEY];
                case RANGE: return v >= 1 && v <= settings[BASE];
                case KEY: return v >= 0 && v < settings[BASE];
                case LABELS: return v >= LEAST_LABELS && v <= MOST_LABELS;
                default: return false;
            }
        }

        /** The mix of a packet by a mask, without the key. */
        int bareMix(Packet packet, int place, int mask) {
            int base = settings[BASE];
            int sum = 0;
            for (int field = 0; field < 5 && base > 0; field++) {
                if ((mask & (1 << field)) != 0) {
                    sum = (31 * sum + packet.fieldAt(field, place)) % base;
                }
            }
            return sum;
        }

        int mixOf(Packet packet, int place) {
            int sum = bareMix(packet, place, settings[MASK]) + settings[KEY];
            return sum < settings[BASE] ? sum : sum - settings[BASE];
        }

        boolean chooses(Packet packet, int place) {
            return mixOf(packet, place) < settings[RANGE];
        }

        int countChosen(Packet packet) {
            int count = 0;
            for (int place = 0; place < packet.length; place++) {
                count += chooses(packet, place) ? 1 : 0;
            }
            return count;
        }

        int labelOf(Packet packet) {
            return settings[LABELS] > 0 ? packet.wideLabel % settings[LABELS] : 0;
        }
    }

    /** A net and the packets that were sent: all that undo() brings back. */
    private static final class State {
        final Net net;
        final Packet[] sent;
        int count;

        State(Net net) {
            this.net = net;
            sent = new Packet[MOST_PACKETS];
        }

        State(State other) {
            net = new Net(other.net);
            sent = other.sent.clone();
            count = other.count;
        }

        boolean hasPacket(int packet) {
            return packet >= 0 && packet < count;
        }

        void add(Packet packet) {
            if (count < MOST_PACKETS) {
                sent[count] = packet;
                count++;
            }
        }

        int countReports() {
            int all = 0;
            for (int i = 0; i < count; i++) {
                all += net.countChosen(sent[i]);
            }
            return all;
        }

        int countPartlyChosen() {
            int all = 0;
            for (int i = 0; i < count; i++) {
                int chosen = net.countChosen(sent[i]);
                all += chosen > 0 && chosen < sent[i].length ? 1 : 0;
            }
            return all;
        }

        int countFates(int fate) {
            int all = 0;
            for (int i = 0; i < count; i++) {
                all += sent[i].fate == fate ? 1 : 0;
            }
            return all;
        }

        int countTrails(int from, int to) {
            int all = 0;
            for (int i = 0; i < count; i++) {
                Packet packet = sent[i];
                all += packet.from == from && packet.hops[packet.length - 1] == to ? 1 : 0;
            }
            return all;
        }
    }

    /** The packets at their first hops: their mixes without the key, and their wide labels. */
    private static final class Firsts {
        private final int[] mixes = new int[MOST_PACKETS];
        private final int[] wideLabels = new int[MOST_PACKETS];
        private final int[] perLabel = new int[MOST_LABELS];
        private int count;
        private int base;
        private int range;

        void gather(State state, int mask) {
            count = state.count;
            base = state.net.settings[BASE];
            range = state.net.settings[RANGE];
            for (int i = 0; i < count; i++) {
                mixes[i] = state.net.bareMix(state.sent[i], 0, mask);
                wideLabels[i] = state.sent[i].wideLabel;
            }
        }

        private boolean isChosen(int i, int key) {
            int mix = mixes[i] + key;
            return (mix < base ? mix : mix - base) < range;
        }

        int chosenBy(int key) {
            int chosen = 0;
            for (int i = 0; i < count; i++) {
                chosen += isChosen(i, key) ? 1 : 0;
            }
            return chosen;
        }

        int clashesBy(int key, int labels) {
            if (labels < LEAST_LABELS || labels > MOST_LABELS) {
                return 0;
            }
            Arrays.fill(perLabel, 0);
            int clashes = 0;
            for (int i = 0; i < count; i++) {
                if (isChosen(i, key)) {
                    int label = wideLabels[i] % labels;
                    clashes += perLabel[label];
                    perLabel[label]++;
                }
            }
            return clashes;
        }

        int unlikeMixes() {
            int unlike = 0;
            for (int i = 0; i < count; i++) {
                unlike += isFirstOfItsMix(i) ? 1 : 0;
            }
            return unlike;
        }

        private boolean isFirstOfItsMix(int i) {
            for (int before = 0; before < i; before++) {
                if (mixes[before] == mixes[i]) {
                    return false;
                }
            }
            return true;
        }
    }

    /** What is to be estimated, laid out by its mix without the key: a key chooses RANGE neighbours of the ring. */
    private static final class Sample {
        private final int[] weights = new int[MOST_BASE];
        private int base;
        private int range;
        long total;

        void clear(int base, int range) {
            this.base = base;
            this.range = range;
            total = 0;
            Arrays.fill(weights, 0);
        }

        void add(int mix, int weight) {
            if (mix >= 0 && mix < base) {
                weights[mix] += weight;
                total += weight;
            }
        }

        long chosenBy(int key) {
            long inside = 0;
            int mix = key == 0 ? 0 : base - key;
            for (int i = 0; i < range; i++) {
                inside += weights[mix];
                mix = mix + 1 < base ? mix + 1 : 0;
            }
            return inside;
        }

        /** Of all keys: what is chosen; or the squares of BASE times that less RANGE times the whole. */
        long sumOverKeys(boolean squares) {
            long sum = 0;
            long inside = chosenBy(0);
            int next = range < base ? range : 0;
            for (int first = 0; first < base; first++) {
                long off = base * inside - range * total;
                sum += squares ? off * off : inside;
                inside += weights[next] - weights[first];
                next = next + 1 < base ? next + 1 : 0;
            }
            return sum;
        }
    }

    /**
     * Joins the reports of a label into sets of walks. The way to a set is a row of moves: a link put behind the
     * open walk, or END. As END is less than any link, a walk is ahead of another one of the same first hop if
     * at the first move in which they differ its move is less.
     */
    private static final class Joiner {
        private static final int END = -1;
        private static final int NO_MOVE = -9;
        private static final int MOST_TURNS = 2 * MOST_STEPS + 2;

        /** Reports left: by the hop at which they entered, by the link by which they came. */
        final int[] entered = new int[MOST_HOPS];
        final int[] came = new int[MOST_LINKS];
        private int enteredLeft;
        private int cameLeft;

        /** Never more moves than reports: a link put uses one, an end stands for the one that entered. */
        private final int[] moves = new int[MOST_REPORTS];
        /** Ahead of each move: the hop at which its walk stands, and the move with which that walk begins. */
        private final int[] at = new int[MOST_REPORTS];
        private final int[] begins = new int[MOST_REPORTS];
        /** The move of the walk before that a move must not be less than; NONE: it is free. */
        private final int[] guides = new int[MOST_REPORTS];
        private int steps;

        /** JOINTS, or UNKNOWN. */
        int sets;
        /** The first set. */
        int walks;
        final int[] walkHops = new int[MOST_PACKETS];
        final int[] walkLengths = new int[MOST_PACKETS];
        private final int[] walkBegins = new int[MOST_PACKETS];
        private final int[] firstMoves = new int[MOST_REPORTS];
        private final boolean[] claimed = new boolean[MOST_PACKETS];

        void gather(State state, int label) {
            Arrays.fill(entered, 0);
            Arrays.fill(came, 0);
            enteredLeft = 0;
            cameLeft = 0;
            for (int i = 0; i < state.count; i++) {
                Packet packet = state.sent[i];
                if (state.net.labelOf(packet) == label) {
                    gatherOf(state.net, packet);
                }
            }
        }

        private void gatherOf(Net net, Packet packet) {
            for (int place = 0; place < packet.length; place++) {
                if (net.chooses(packet, place)) {
                    if (place == 0) {
                        entered[packet.from]++;
                        enteredLeft++;
                    } else {
                        came[packet.links[place]]++;
                        cameLeft++;
                    }
                }
            }
        }

        boolean hasReports() {
            return enteredLeft + cameLeft > 0;
        }

        /** Goes through all sets; what was gathered is used up. */
        void join(Net net) {
            sets = 0;
            walks = 0;
            steps = 0;
            if (enteredLeft == 0) {
                sets = cameLeft == 0 ? 1 : 0;
                return;
            }
            openWalk(0, NONE);
            int depth = 0;
            // Each turn makes a step or takes one back.
            for (int turn = 0; turn <= MOST_TURNS && depth >= 0 && depth < MOST_REPORTS; turn++) {
                int move = nextMove(net, depth);
                if (move == NO_MOVE) {
                    depth--;
                    takeBack(depth);
                } else if (steps == MOST_STEPS) {
                    sets = UNKNOWN;
                    return;
                } else {
                    steps++;
                    moves[depth] = move;
                    depth = move == END ? endWalk(depth) : goOn(net, depth);
                }
            }
        }

        private int nextMove(Net net, int depth) {
            int move = moves[depth] + 1;
            if (move == END) {
                return END;
            }
            for (int i = move; i < net.links; i++) {
                if (came[i] > 0 && net.starts[i] == at[depth]) {
                    return i;
                }
            }
            return NO_MOVE;
        }

        /** Made ready so that the next move is the least one that the guide leaves. */
        private void stand(int depth, int hop, int begin, int guide) {
            if (depth >= MOST_REPORTS) {
                return;
            }
            at[depth] = hop;
            begins[depth] = begin;
            guides[depth] = guide;
            moves[depth] = (guide == NONE ? END : moves[guide]) - 1;
        }

        private void openWalk(int depth, int beginBefore) {
            int hop = 0;
            while (hop < MOST_HOPS - 1 && entered[hop] == 0) {
                hop++;
            }
            entered[hop]--;
            enteredLeft--;
            boolean alike = beginBefore != NONE && at[beginBefore] == hop;
            stand(depth, hop, depth, alike ? beginBefore : NONE);
        }

        private int goOn(Net net, int depth) {
            int link = moves[depth];
            came[link]--;
            cameLeft--;
            int guide = guides[depth];
            boolean alike = guide != NONE && moves[guide] == link;
            stand(depth + 1, net.ends[link], begins[depth], alike ? guide + 1 : NONE);
            return depth + 1;
        }

        private int endWalk(int depth) {
            if (enteredLeft > 0) {
                openWalk(depth + 1, begins[depth]);
                return depth + 1;
            }
            if (cameLeft == 0) {
                if (sets == 0) {
                    keepSet(depth + 1);
                }
                sets++;
            }
            return depth;
        }

        private void takeBack(int depth) {
            if (depth < 0) {
                return;
            }
            if (moves[depth] == END) {
                entered[at[depth + 1]]++;
                enteredLeft++;
            } else {
                came[moves[depth]]++;
                cameLeft++;
            }
        }

        private void keepSet(int length) {
            for (int i = 0; i < length; i++) {
                firstMoves[i] = moves[i];
                if (moves[i] == END && walks < MOST_PACKETS) {
                    walkBegins[walks] = begins[i];
                    walkHops[walks] = at[begins[i]];
                    walkLengths[walks] = i - begins[i];
                    walks++;
                }
            }
        }

        int linkOfWalk(int k, int i) {
            return firstMoves[walkBegins[k] + i];
        }

        int lastHop(Net net, int k) {
            int length = walkLengths[k];
            return length == 0 ? walkHops[k] : net.ends[linkOfWalk(k, length - 1)];
        }

        int countWalks(Net net, int from, int to) {
            int count = 0;
            for (int k = 0; k < walks; k++) {
                count += walkHops[k] == from && lastHop(net, k) == to ? 1 : 0;
            }
            return count;
        }

        void releaseWalks() {
            for (int k = 0; k < claimed.length; k++) {
                claimed[k] = false;
            }
        }

        /** Whether there was a walk, not yet claimed, that is the whole trail of the packet: it is claimed now. */
        boolean claimWalk(Packet packet) {
            for (int k = 0; k < walks; k++) {
                if (!claimed[k] && isTrail(k, packet)) {
                    claimed[k] = true;
                    return true;
                }
            }
            return false;
        }

        private boolean isTrail(int k, Packet packet) {
            if (walkHops[k] != packet.from || walkLengths[k] != packet.length - 1) {
                return false;
            }
            for (int i = 0; i < walkLengths[k]; i++) {
                if (linkOfWalk(k, i) != packet.links[i + 1]) {
                    return false;
                }
            }
            return true;
        }
    }

    /** Reads a text from the left and stops at its first fault. */
    private static final class Reader {
        private static final int TOO_MUCH = 100000;

        private final byte[] bytes;
        private final int length;
        private int place;
        private int numberPlace;
        /** The hops of the line that is read, and the place of the first one. */
        private int near;
        private int nearPlace;
        private int far;
        final Net net;
        int faultKind;
        int faultPlace;

        Reader(byte[] bytes, int length) {
            this.bytes = bytes;
            this.length = length;
            net = new Net();
            faultPlace = NONE;
        }

        boolean readAll() {
            boolean right = readHops() && readSemicolon();
            // A line takes two bytes at least, so that there are never so many.
            for (int line = 0; line < MOST_BYTES && right && !isAtEnd(); line++) {
                right = readLine() && readSemicolon();
            }
            return right;
        }

        private boolean isAtEnd() {
            skipBlanks();
            return place >= length;
        }

        private boolean readHops() {
            skipBlanks();
            int start = place;
            skipLetters();
            if (!isWord(start, "hops")) {
                return refuse(FAULT_FORM, start);
            }
            int hops = readNumber();
            if (hops == NONE) {
                return false;
            }
            if (hops < 2 || hops > MOST_HOPS) {
                return refuse(FAULT_NUMBER, numberPlace);
            }
            net.hops = hops;
            return true;
        }

        private boolean readLine() {
            int start = place;
            skipLetters();
            if (isWord(start, "link")) {
                return readLink(start);
            }
            if (isWord(start, "cut")) {
                return readCut();
            }
            if (isWord(start, "route")) {
                return readRoute();
            }
            if (isWord(start, "base")) {
                return readSetting(BASE) && readSetting(RANGE);
            }
            if (isWord(start, "key")) {
                return readSetting(KEY);
            }
            if (isWord(start, "mask")) {
                return readSetting(MASK);
            }
            if (isWord(start, "labels")) {
                return readSetting(LABELS);
            }
            return refuse(FAULT_FORM, start);
        }

        private boolean readLink(int start) {
            if (net.links >= MOST_LINKS) {
                return refuse(FAULT_LINKS, start);
            }
            if (!readNear() || !readFar()) {
                return false;
            }
            if (net.linkBetween(near, far) != NONE) {
                return refuse(FAULT_LINK, nearPlace);
            }
            net.addLink(near, far);
            return true;
        }

        private boolean readCut() {
            if (!readNear() || !readFar()) {
                return false;
            }
            int link = net.linkBetween(near, far);
            if (link == NONE) {
                return refuse(FAULT_LINK, nearPlace);
            }
            net.ups[link] = 0;
            return true;
        }

        private boolean readRoute() {
            if (!readNear() || !readFar()) {
                return false;
            }
            int dest = far;
            if (!readFar()) {
                return false;
            }
            int link = net.linkBetween(near, far);
            if (link == NONE) {
                return refuse(FAULT_LINK, nearPlace);
            }
            net.routes[near * MOST_HOPS + dest] = link;
            return true;
        }

        private boolean readSetting(int what) {
            int v = readNumber();
            if (v == NONE) {
                return false;
            }
            if (!net.fits(what, v)) {
                return refuse(FAULT_NUMBER, numberPlace);
            }
            net.settings[what] = v;
            return true;
        }

        private boolean readNear() {
            near = readNumber();
            nearPlace = numberPlace;
            if (near == NONE) {
                return false;
            }
            return net.hasHop(near) || refuse(FAULT_NUMBER, numberPlace);
        }

        private boolean readFar() {
            far = readNumber();
            if (far == NONE) {
                return false;
            }
            return net.hasHop(far) && far != near || refuse(FAULT_NUMBER, numberPlace);
        }

        /** A number, not above TOO_MUCH; NONE, if none stands there: that is a fault. */
        private int readNumber() {
            skipBlanks();
            numberPlace = place;
            int value = 0;
            while (place < length && bytes[place] >= '0' && bytes[place] <= '9') {
                value = Math.min(10 * value + bytes[place] - '0', TOO_MUCH);
                place++;
            }
            if (place == numberPlace) {
                refuse(FAULT_FORM, place);
                return NONE;
            }
            return value;
        }

        private boolean readSemicolon() {
            skipBlanks();
            if (place >= length || bytes[place] != ';') {
                return refuse(FAULT_FORM, place);
            }
            place++;
            return true;
        }

        private void skipBlanks() {
            while (place < length && bytes[place] == ' ') {
                place++;
            }
        }

        private void skipLetters() {
            while (place < length && bytes[place] >= 'a' && bytes[place] <= 'z') {
                place++;
            }
        }

        /** Whether the letters from start to the place read so far are the word. */
        private boolean isWord(int start, String word) {
            if (place - start != word.length()) {
                return false;
            }
            for (int i = 0; i < word.length(); i++) {
                if (bytes[start + i] != word.charAt(i)) {
                    return false;
                }
            }
            return true;
        }

        private boolean refuse(int kind, int where) {
            faultKind = kind;
            faultPlace = where;
            return false;
        }
    }
}
