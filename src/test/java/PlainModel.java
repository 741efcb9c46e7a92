import java.math.BigInteger;
import java.util.ArrayList;
import java.util.Arrays;
import java.util.Collections;
import java.util.HashMap;
import java.util.HashSet;
import java.util.List;
import java.util.Map;
import java.util.NoSuchElementException;
import java.util.Set;
import java.util.TreeMap;
import java.util.TreeSet;
import java.util.regex.Matcher;
import java.util.regex.Pattern;

/**
 * The document written down a second time, as plainly as can be and by other means (lists, maps, recursion, big
 * numbers, every key tried), to hold the class against it. Speed is of no matter here.
 */
final class PlainModel {
    static final class Sent {
        int from, dest, number, size, life, fate;
        List<Integer> hops = new ArrayList<>();
        List<Integer> came = new ArrayList<>();
    }

    static final class World {
        int hops = 2;
        List<int[]> links = new ArrayList<>();
        Map<Integer, Boolean> up = new HashMap<>();
        Map<List<Integer>, Integer> routes = new HashMap<>();
        int mask = 7, base = 101, range = 20, key = 0, labels = 16;
        List<Sent> sent = new ArrayList<>();

        World copy() {
            World w = new World();
            w.hops = hops;
            w.links = new ArrayList<>(links);
            w.up = new HashMap<>(up);
            w.routes = new HashMap<>(routes);
            w.mask = mask;
            w.base = base;
            w.range = range;
            w.key = key;
            w.labels = labels;
            w.sent = new ArrayList<>(sent);
            return w;
        }
    }

    static final class Fault extends RuntimeException {
        final int kind, place;

        Fault(int kind, int place) {
            this.kind = kind;
            this.place = place;
        }
    }

    World w = new World();
    final List<World> before = new ArrayList<>();
    StringBuilder tape = new StringBuilder();
    int faultPlace = -1;
    final int[] refusals = new int[3];

    /** Every call goes through here: refusals are counted. */
    String outcome(Checks.Call call) {
        try {
            return Long.toString(call.answer());
        } catch (NoSuchElementException e) {
            refusals[0]++;
            return "NoSuchElementException";
        } catch (IllegalArgumentException e) {
            refusals[1]++;
            return "IllegalArgumentException";
        } catch (IllegalStateException e) {
            refusals[2]++;
            return "IllegalStateException";
        }
    }

    private static void there(boolean yes) {
        if (!yes) throw new NoSuchElementException();
    }

    private static void fine(boolean yes) {
        if (!yes) throw new IllegalArgumentException();
    }

    private boolean hop(int h) {
        return 0 <= h && h < w.hops;
    }

    private boolean isLink(int l) {
        return 0 <= l && l < w.links.size();
    }

    private static boolean in(int v, int low, int high) {
        return low <= v && v <= high;
    }

    // the tape

    int feed(int... numbers) {
        if (tape.length() > 380) return -1;
        for (int n : numbers)
            for (byte b : java.nio.ByteBuffer.allocate(4).putInt(n).array()) tape.append((char) (b & 255));
        return tape.length();
    }

    int text(int n) {
        fine(in(n, 0, tape.length()));
        String s = tape.substring(0, n);
        tape = new StringBuilder();
        try {
            World told = parse(s);
            w = told;
            before.clear();
            faultPlace = -1;
            return told.links.size();
        } catch (Fault f) {
            faultPlace = f.place;
            return f.kind - 10;
        }
    }

    int fault() {
        return faultPlace;
    }

    private static final Pattern TOKEN = Pattern.compile("[a-z]+|[0-9]+|[^ ]", Pattern.DOTALL);

    private List<String> tokens;
    private List<Integer> places;
    private int next;

    private String peek() {
        return next < tokens.size() ? tokens.get(next) : "";
    }

    private int place() {
        return places.get(next);
    }

    private void expect(String token) {
        if (!peek().equals(token)) throw new Fault(1, place());
        next++;
    }

    private int number(int low, int high, int... not) {
        if (!peek().matches("[0-9]+")) throw new Fault(1, place());
        BigInteger v = new BigInteger(peek());
        boolean ok = v.compareTo(BigInteger.valueOf(low)) >= 0 && v.compareTo(BigInteger.valueOf(high)) <= 0;
        for (int n : not) ok &= !v.equals(BigInteger.valueOf(n));
        if (!ok) throw new Fault(2, place());
        next++;
        return v.intValueExact();
    }

    private static int between(World t, int a, int b) {
        for (int i = 0; i < t.links.size(); i++) if (Arrays.equals(t.links.get(i), new int[] {a, b})) return i;
        return -1;
    }

    private World parse(String s) {
        tokens = new ArrayList<>();
        places = new ArrayList<>();
        next = 0;
        Matcher m = TOKEN.matcher(s);
        while (m.find()) {
            tokens.add(m.group());
            places.add(m.start());
        }
        places.add(s.length());
        World t = new World();
        expect("hops");
        t.hops = number(2, 10);
        expect(";");
        while (next < tokens.size()) {
            int wordPlace = place();
            String word = peek();
            switch (word) {
                case "link": case "cut": case "route": case "base": case "key": case "mask": case "labels": break;
                default: throw new Fault(1, wordPlace);
            }
            next++;
            line(t, word, wordPlace);
            expect(";");
        }
        return t;
    }

    private void line(World t, String word, int wordPlace) {
        switch (word) {
            case "link", "cut", "route" -> {
                if (word.equals("link") && t.links.size() == 24) throw new Fault(3, wordPlace);
                int aPlace = place();
                int a = number(0, t.hops - 1);
                int d = word.equals("route") ? number(0, t.hops - 1, a) : -1;
                int b = number(0, t.hops - 1, a);
                int l = between(t, a, b);
                if (word.equals("link") == (l >= 0)) throw new Fault(4, aPlace);
                if (word.equals("link")) {
                    t.up.put(t.links.size(), true);
                    t.links.add(new int[] {a, b});
                } else if (word.equals("cut")) {
                    t.up.put(l, false);
                } else {
                    t.routes.put(List.of(a, d), l);
                }
            }
            case "base" -> {
                t.base = number(Math.max(2, t.key + 1), 997);
                t.range = number(1, t.base);
            }
            case "key" -> t.key = number(0, t.base - 1);
            case "mask" -> t.mask = number(1, 31);
            default -> t.labels = number(2, 64);
        }
    }

    // changes

    private void change() {
        before.add(w);
        if (before.size() > 12) before.remove(0);
        w = w.copy();
    }

    int send(int from, int dest, int number, int size, int life) {
        fine(hop(from) && hop(dest) && in(number, 0, 9999) && in(size, 1, 200) && in(life, 0, 12));
        if (w.sent.size() == 40) throw new IllegalStateException();
        change();
        Sent p = new Sent();
        p.from = from;
        p.dest = dest;
        p.number = number;
        p.size = size;
        p.life = life;
        go(p, from, -1, life);
        w.sent.add(p);
        return w.sent.size() - 1;
    }

    private void go(Sent p, int at, int by, int life) {
        p.hops.add(at);
        p.came.add(by);
        if (at == p.dest) {
            p.fate = 0;
            return;
        }
        Integer l = w.routes.get(List.of(at, p.dest));
        if (l == null) p.fate = 1;
        else if (!w.up.get(l)) p.fate = 2;
        else if (life == 0) p.fate = 3;
        else go(p, w.links.get(l)[1], l, life - 1);
    }

    int forget() {
        change();
        int n = w.sent.size();
        w.sent = new ArrayList<>();
        return n;
    }

    int link(int link, int up) {
        there(isLink(link));
        fine(in(up, 0, 1));
        change();
        return w.up.put(link, up == 1) == (up == 1) ? 0 : 1;
    }

    int route(int h, int dest, int link) {
        there(hop(h) && hop(dest) && (link == -1 || isLink(link)));
        fine(h != dest && (link == -1 || w.links.get(link)[0] == h));
        change();
        Integer was = link == -1 ? w.routes.remove(List.of(h, dest)) : w.routes.put(List.of(h, dest), link);
        return was == null ? -1 : was;
    }

    int set(int what, int v) {
        World n = w.copy();
        int was;
        switch (what) {
            case 0 -> { was = n.mask; n.mask = v; }
            case 1 -> { was = n.base; n.base = v; }
            case 2 -> { was = n.range; n.range = v; }
            case 3 -> { was = n.key; n.key = v; }
            case 4 -> { was = n.labels; n.labels = v; }
            default -> throw new IllegalArgumentException();
        }
        fine(in(n.mask, 1, 31) && in(n.base, 2, 997) && in(n.range, 1, n.base) && in(n.key, 0, n.base - 1)
                && in(n.labels, 2, 64));
        change();
        w = n;
        return was;
    }

    int undo() {
        if (before.isEmpty()) return -1;
        w = before.remove(before.size() - 1);
        return before.size();
    }

    // choice

    private static long mix(World w, Sent p, int k, int mask, int key) {
        int[] fields = {p.from, p.dest, p.number, p.size, p.life - k};
        long x = 0;
        for (int f = 0; f < 5; f++) if ((mask >> f) % 2 == 1) x = (x * 31 + fields[f]) % w.base;
        return (x + key) % w.base;
    }

    private boolean chosen(Sent p, int k, int key) {
        return mix(w, p, k, w.mask, key) < w.range;
    }

    private boolean chosen(Sent p, int k) {
        return chosen(p, k, w.key);
    }

    private int chosenHops(Sent p) {
        int n = 0;
        for (int k = 0; k < p.hops.size(); k++) if (chosen(p, k)) n++;
        return n;
    }

    private static int labelOf(Sent p, int m) {
        BigInteger x = BigInteger.ZERO;
        for (int f : new int[] {p.from, p.dest, p.number, p.size})
            x = x.multiply(BigInteger.valueOf(37)).add(BigInteger.valueOf(f)).mod(BigInteger.valueOf(9973));
        return x.intValue() % m;
    }

    private int clashCount(int m, int key) {
        int n = 0;
        for (int i = 0; i < w.sent.size(); i++)
            for (int j = 0; j < i; j++) {
                Sent p = w.sent.get(i), q = w.sent.get(j);
                if (chosen(p, 0, key) && chosen(q, 0, key) && labelOf(p, m) == labelOf(q, m)) n++;
            }
        return n;
    }

    private int chosenFirst(int key) {
        int n = 0;
        for (Sent p : w.sent) if (chosen(p, 0, key)) n++;
        return n;
    }

    // asked

    int told(int what) {
        return switch (what) {
            case 0 -> w.hops;
            case 1 -> w.links.size();
            case 2 -> w.sent.size();
            case 3 -> w.mask;
            case 4 -> w.base;
            case 5 -> w.range;
            case 6 -> w.key;
            case 7 -> w.labels;
            case 8 -> before.size();
            case 9 -> tape.length();
            case 10 -> w.sent.stream().mapToInt(this::chosenHops).sum();
            case 11 -> chosenFirst(w.key);
            case 12 -> (int) w.sent.stream().filter(p -> in(chosenHops(p), 1, p.hops.size() - 1)).count();
            case 13 -> clashCount(w.labels, w.key);
            default -> throw new IllegalArgumentException();
        };
    }

    int linkTold(int link, int what) {
        there(isLink(link));
        fine(in(what, 0, 2));
        return what == 2 ? (w.up.get(link) ? 1 : 0) : w.links.get(link)[what];
    }

    int routeTold(int h, int dest) {
        there(hop(h) && hop(dest));
        return w.routes.getOrDefault(List.of(h, dest), -1);
    }

    int packet(int packet, int what) {
        there(in(packet, 0, w.sent.size() - 1));
        fine(in(what, 0, 8));
        Sent p = w.sent.get(packet);
        return new int[] {p.from, p.dest, p.number, p.size, p.life, p.fate, p.hops.size(), labelOf(p, w.labels),
            chosenHops(p)}[what];
    }

    int trail(int packet, int k, int what) {
        there(in(packet, 0, w.sent.size() - 1) && in(k, 0, w.sent.get(packet).hops.size() - 1));
        fine(in(what, 0, 4));
        Sent p = w.sent.get(packet);
        return new int[] {p.hops.get(k), p.came.get(k), p.life - k, (int) mix(w, p, k, w.mask, w.key),
            chosen(p, k) ? 1 : 0}[what];
    }

    /** Reports of a label: how many, by (hop, link or -1). */
    private Map<List<Integer>, Integer> reportsOf(int label) {
        Map<List<Integer>, Integer> all = new HashMap<>();
        for (Sent p : w.sent)
            if (labelOf(p, w.labels) == label)
                for (int k = 0; k < p.hops.size(); k++)
                    if (chosen(p, k)) all.merge(List.of(p.hops.get(k), p.came.get(k)), 1, Integer::sum);
        return all;
    }

    int reports(int label, int h, int link) {
        there(hop(h) && (link == -1 || isLink(link)));
        fine(in(label, 0, w.labels - 1) && (link == -1 || w.links.get(link)[1] == h));
        return reportsOf(label).getOrDefault(List.of(h, link), 0);
    }

    private List<Integer> reported() {
        List<Integer> all = new ArrayList<>();
        for (int l = 0; l < w.labels; l++) if (!reportsOf(l).isEmpty()) all.add(l);
        return all;
    }

    int label(int k) {
        List<Integer> all = reported();
        return in(k, 0, all.size() - 1) ? all.get(k) : -1;
    }

    // walks: the first number is the hop at which it begins, then its links

    static final class TooMany extends RuntimeException {}

    int steps;
    List<List<List<Integer>>> sets;
    private TreeMap<Integer, Integer> entered;
    private TreeMap<Integer, Integer> byLink;

    /** All sets; null: unknown. */
    List<List<List<Integer>>> join(int label) {
        entered = new TreeMap<>();
        byLink = new TreeMap<>();
        reportsOf(label).forEach((r, n) -> {
            if (r.get(1) == -1) entered.put(r.get(0), n);
            else byLink.put(r.get(1), n);
        });
        steps = 0;
        sets = new ArrayList<>();
        try {
            nextWalk(new ArrayList<>());
        } catch (TooMany e) {
            return null;
        }
        return sets;
    }

    private static void add(Map<Integer, Integer> m, int key, int n) {
        m.merge(key, n, Integer::sum);
        if (m.get(key) == 0) m.remove(key);
    }

    private void nextWalk(List<List<Integer>> done) {
        if (entered.isEmpty()) {
            if (byLink.isEmpty()) sets.add(new ArrayList<>(done));
            return;
        }
        int h = entered.firstKey();
        add(entered, h, -1);
        grow(done, List.of(h), h);
        add(entered, h, 1);
    }

    private void step() {
        if (++steps > 5000) throw new TooMany();
    }

    private void grow(List<List<Integer>> done, List<Integer> walk, int at) {
        List<Integer> prev = done.isEmpty() ? null : done.get(done.size() - 1);
        if (prev == null || !ahead(walk, true, prev)) {
            step();
            done.add(walk);
            nextWalk(done);
            done.remove(done.size() - 1);
        }
        for (int l : new TreeSet<>(byLink.keySet())) {
            if (w.links.get(l)[0] != at) continue;
            List<Integer> longer = new ArrayList<>(walk);
            longer.add(l);
            if (prev != null && ahead(longer, false, prev)) continue;
            step();
            add(byLink, l, -1);
            grow(done, longer, w.links.get(l)[1]);
            add(byLink, l, 1);
        }
    }

    /** Whether a walk, ended or begun thus, is ahead of another one. */
    private static boolean ahead(List<Integer> walk, boolean ended, List<Integer> other) {
        for (int i = 0; i < walk.size() && i < other.size(); i++)
            if (!walk.get(i).equals(other.get(i))) return walk.get(i) < other.get(i);
        return ended && walk.size() < other.size();
    }

    int joints(int label) {
        fine(in(label, 0, w.labels - 1));
        return join(label) == null ? -2 : sets.size();
    }

    private int lastHop(List<Integer> walk) {
        return walk.size() == 1 ? walk.get(0) : w.links.get(walk.get(walk.size() - 1))[1];
    }

    int walk(int label, int k, int what) {
        fine(in(label, 0, w.labels - 1) && in(what, 0, 3));
        List<List<List<Integer>>> all = join(label);
        if (what == 0) return all == null ? -2 : all.isEmpty() ? -3 : all.get(0).size();
        there(all != null && !all.isEmpty() && in(k, 0, all.get(0).size() - 1));
        List<Integer> walk = all.get(0).get(k);
        return new int[] {0, walk.get(0), walk.size() - 1, lastHop(walk)}[what];
    }

    int walkAt(int label, int k, int i) {
        fine(in(label, 0, w.labels - 1));
        List<List<List<Integer>>> all = join(label);
        there(all != null && !all.isEmpty() && in(k, 0, all.get(0).size() - 1));
        List<Integer> walk = all.get(0).get(k);
        there(in(i, 0, walk.size() - 2));
        return walk.get(i + 1);
    }

    int joined(int what) {
        fine(in(what, 0, 4));
        int[] n = new int[5];
        for (int label : reported()) {
            List<List<List<Integer>>> all = join(label);
            if (all == null) n[3]++;
            else if (all.isEmpty()) n[2]++;
            else if (all.size() > 1) n[1]++;
            else {
                n[0]++;
                if (sorted(all.get(0)).equals(sorted(trailsOf(label)))) n[4]++;
            }
        }
        return n[what];
    }

    private List<List<Integer>> trailsOf(int label) {
        List<List<Integer>> all = new ArrayList<>();
        for (Sent p : w.sent)
            if (labelOf(p, w.labels) == label && chosen(p, 0)) {
                List<Integer> t = new ArrayList<>(p.came);
                t.set(0, p.from);
                all.add(t);
            }
        return all;
    }

    private static List<String> sorted(List<List<Integer>> walks) {
        List<String> all = new ArrayList<>();
        for (List<Integer> walk : walks) all.add(walk.toString());
        Collections.sort(all);
        return all;
    }

    // fractions

    private static BigInteger big(long n) {
        return BigInteger.valueOf(n);
    }

    private static long ratio(BigInteger upper, BigInteger lower, boolean wantLower) {
        BigInteger g = upper.gcd(lower);
        return (wantLower ? lower : upper).divide(g).longValueExact();
    }

    private long chosenSum(int what, int i, Integer key) {
        long n = 0;
        for (Sent p : w.sent)
            for (int k = 0; k < p.hops.size(); k++) {
                boolean counts = what == 0 ? k == 0 && p.from == i : what == 3 ? k == 0 : p.came.get(k) == i && k > 0;
                if (counts && (key == null || chosen(p, k, key))) n += what == 2 ? p.size : 1;
            }
        return n;
    }

    long estimate(int what, int i, int part) {
        fine(in(what, 0, 3) && in(part, 0, 6));
        there(what == 0 ? hop(i) : what == 3 ? i == 0 : isLink(i));
        BigInteger a = big(w.base), r = big(w.range);
        BigInteger truth = big(chosenSum(what, i, null));
        if (part == 2) return truth.longValueExact();
        if (part < 2) return ratio(a.multiply(big(chosenSum(what, i, w.key))), r, part == 1);
        BigInteger sum = BigInteger.ZERO, squares = BigInteger.ZERO;
        for (int key = 0; key < w.base; key++) {
            BigInteger e = a.multiply(big(chosenSum(what, i, key)));
            sum = sum.add(e);
            squares = squares.add(e.subtract(truth.multiply(r)).pow(2));
        }
        if (part < 5) return ratio(sum, r.multiply(a), part == 4);
        return ratio(squares, r.multiply(r).multiply(a), part == 6);
    }

    long matrix(int from, int to, int part) {
        there(hop(from) && hop(to));
        fine(in(part, 0, 2));
        if (part == 2)
            return w.sent.stream().filter(p -> p.from == from && p.hops.get(p.hops.size() - 1) == to).count();
        long n = 0;
        for (int label = 0; label < w.labels; label++) {
            List<List<List<Integer>>> all = join(label);
            if (all != null && all.size() == 1)
                for (List<Integer> walk : all.get(0)) if (walk.get(0) == from && lastHop(walk) == to) n++;
        }
        return ratio(big(w.base).multiply(big(n)), big(w.range), part == 1);
    }

    int fates(int fate) {
        fine(in(fate, 0, 3));
        return (int) w.sent.stream().filter(p -> p.fate == fate).count();
    }

    int leastLabels() {
        for (int m = 2; m <= 64; m++) if (clashCount(m, w.key) == 0) return m;
        return -1;
    }

    long unlike(int n, boolean lower) {
        fine(in(n, 0, 10));
        BigInteger up = BigInteger.ONE;
        for (int i = 0; i < n; i++) up = up.multiply(big(Math.max(0, w.labels - i)));
        return ratio(up, big(w.labels).pow(n), lower);
    }

    int clashes(int labels) {
        fine(in(labels, 2, 64));
        return clashCount(labels, w.key);
    }

    int bestKey(int least, int what) {
        fine(in(least, 0, 40) && in(what, 0, 1));
        int[] best = {-1, -1};
        for (int key = w.base - 1; key >= 0; key--)
            if (chosenFirst(key) >= least) {
                int c = clashCount(w.labels, key);
                if (best[0] == -1 || c <= best[1]) best = new int[] {key, c};
            }
        return best[what];
    }

    int bestMask(int what) {
        fine(in(what, 0, 1));
        int[] best = {-1, -1};
        for (int mask = 15; mask >= 1; mask--) {
            Set<Long> mixes = new HashSet<>();
            for (Sent p : w.sent) mixes.add(mix(w, p, 0, mask, w.key));
            if (mixes.size() >= best[1]) best = new int[] {mask, mixes.size()};
        }
        return best[what];
    }

    long print() {
        BigInteger x = BigInteger.ZERO;
        for (Sent p : w.sent) {
            x = x.multiply(big(31)).add(big(p.fate));
            for (int k = 0; k < p.hops.size(); k++)
                x = x.multiply(big(31)).add(big(p.hops.get(k))).add(big(chosen(p, k) ? 16 : 0));
        }
        return x.longValue();
    }

    int status(int what) {
        return in(what, 0, 2) ? refusals[what] : -1;
    }
}
