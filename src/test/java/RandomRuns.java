import java.util.ArrayList;
import java.util.Collections;
import java.util.List;
import java.util.Random;

/** Makes runs of calls, always the same ones for a seed, and makes each call on the class and on the plain model. */
final class RandomRuns {
    private static final String SIGNS = "  ;;0123456789linkcutroutebasekeymasklabelshopsxA\u0000\u00ff:/`{";

    final PacketTrail real = new PacketTrail();
    final PlainModel plain = new PlainModel();
    final Random random;
    final Checks checks;
    private final List<String> done = new ArrayList<>();
    private int hops = 2;

    RandomRuns(long seed, Checks checks) {
        random = new Random(seed);
        this.checks = checks;
        checks.part("seed " + seed);
    }

    /** A number from low to high, and sometimes one beside them. */
    int near(int low, int high) {
        int dice = random.nextInt(60);
        if (dice == 0) return low - 1;
        if (dice == 1) return high + 1;
        if (dice == 2) return random.nextInt();
        return high < low ? low : low + random.nextInt(high - low + 1);
    }

    private boolean same(String call, Checks.Call a, Checks.Call b) {
        String want = plain.outcome(b);
        String got = Checks.outcome(a);
        done.add(call + " -> " + want);
        if (!got.equals(want)) {
            checks.complain(call + " answered " + got + ", due is " + want + " after " + done);
            return false;
        }
        return true;
    }

    boolean feedText(String text) {
        boolean ok = true;
        for (int at = 0; at < text.length() && ok; at += 20) {
            int[] n = new int[5];
            for (int i = 0; i < 20; i++) {
                char c = at + i < text.length() ? text.charAt(at + i) : 'z';
                n[i / 4] = n[i / 4] << 8 | c;
            }
            ok = same("feed", () -> real.feed(n[0], n[1], n[2], n[3], n[4]), () -> plain.feed(n));
        }
        return ok && same("text " + text, () -> real.text(text.length()), () -> plain.text(text.length()))
            && same("fault", real::fault, plain::fault);
    }

    String someText(boolean loops) {
        hops = 2 + random.nextInt(loops ? 4 : 9);
        StringBuilder s = new StringBuilder("hops" + hops + ";");
        List<int[]> pairs = new ArrayList<>();
        for (int a = 0; a < hops; a++) for (int b = 0; b < hops; b++) if (a != b) pairs.add(new int[] {a, b});
        Collections.shuffle(pairs, random);
        int links = Math.min(pairs.size(), random.nextInt(3) == 0 ? 24 : 1 + random.nextInt(12));
        for (int i = 0; i < links; i++) s.append("link").append(pairs.get(i)[0]).append(' ').append(pairs.get(i)[1]).append(";");
        if (random.nextInt(2) == 0) {
            int base = 2 + random.nextInt(random.nextInt(4) == 0 ? 996 : 30);
            s.append("base " + base + " " + (1 + random.nextInt(base)) + ";");
            if (random.nextInt(2) == 0) s.append("key " + random.nextInt(base) + ";");
        }
        if (random.nextInt(2) == 0) s.append("mask " + (1 + random.nextInt(31)) + ";");
        if (random.nextInt(2) == 0) s.append("labels " + (2 + random.nextInt(random.nextInt(2) == 0 ? 4 : 63)) + ";");
        for (int i = 0; i < 40 && s.length() < 380 && links > 0; i++) {
            int[] l = pairs.get(random.nextInt(links));
            int d = random.nextInt(hops);
            if (d != l[0]) s.append(random.nextInt(9) == 0 ? "cut " + l[0] + " " + l[1] + ";" : "route" + l[0] + " " + d + " " + l[1] + ";");
        }
        return s.length() > 400 ? s.substring(0, s.lastIndexOf(";", 398) + 1) : s.toString();
    }

    /** A small net with routes almost everywhere, where most packets are chosen and few labels tell them apart. */
    String denseText() {
        hops = 2 + random.nextInt(4);
        StringBuilder s = new StringBuilder("hops " + hops + ";");
        List<int[]> links = new ArrayList<>();
        for (int a = 0; a < hops; a++) for (int b = 0; b < hops; b++) if (a != b && random.nextInt(4) > 0) links.add(new int[] {a, b});
        Collections.shuffle(links, random);
        for (int[] l : links) s.append("link " + l[0] + " " + l[1] + ";");
        int base = 2 + random.nextInt(40);
        s.append("base " + base + " " + (random.nextInt(3) > 0 ? base : Math.max(1, base - 1 - random.nextInt(3))) + ";");
        s.append("mask " + (random.nextInt(2) == 0 ? 7 : 1 + random.nextInt(31)) + ";labels " + (2 + random.nextInt(7)) + ";");
        for (int[] l : links) {
            int d = random.nextInt(hops);
            if (d != l[0] && s.length() < 385) s.append("route " + l[0] + " " + d + " " + l[1] + ";");
        }
        return s.toString();
    }

    /** A text in which a line is told again, is left out, stands elsewhere, or has another number. */
    String shuffled(String text) {
        List<String> lines = new ArrayList<>(List.of(text.split(";")));
        int at = random.nextInt(lines.size()), other = random.nextInt(lines.size());
        switch (random.nextInt(5)) {
            case 0 -> lines.add(at, lines.get(other));
            case 1 -> lines.remove(at);
            case 2 -> Collections.swap(lines, at, other);
            case 3 -> lines.set(at, lines.get(at).replaceFirst("[0-9]+", Integer.toString(random.nextInt(1100))));
            default -> lines.set(at, lines.get(at).replaceFirst("[0-9]+ *$", random.nextInt(12) + "  "));
        }
        String made = String.join(random.nextBoolean() ? ";" : "  ; ", lines) + ";";
        return made.length() > 400 ? made.substring(0, 400) : made;
    }

    String spoilt(String text) {
        StringBuilder s = new StringBuilder(text);
        for (int n = 1 + random.nextInt(2); n > 0 && s.length() > 0; n--) {
            int at = random.nextInt(s.length());
            char sign = SIGNS.charAt(random.nextInt(SIGNS.length()));
            switch (random.nextInt(5)) {
                case 0 -> s.setLength(at);
                case 1 -> s.deleteCharAt(at);
                case 2 -> s.insert(at, sign);
                case 3 -> s.setCharAt(at, sign);
                default -> s.insert(at, text, 0, random.nextInt(text.length()));
            }
        }
        if (s.length() > 400) s.setLength(400);
        return s.toString();
    }

    /** One call, of those that change something or of those that ask. */
    boolean change() {
        int l = plain.w.links.size();
        switch (random.nextInt(20)) {
            case 0: return same("forget", real::forget, plain::forget);
            case 1:
            case 2: return same("undo", real::undo, plain::undo);
            case 3: {
                int link = near(0, l - 1), up = near(0, 1);
                return same("link " + link + " " + up, () -> real.link(link, up) ? 1 : 0, () -> plain.link(link, up));
            }
            case 4:
            case 5:
            case 6:
            case 7: {
                int link = near(-1, l - 1);
                int hop = link >= 0 && link < l && random.nextInt(8) > 0 ? plain.w.links.get(link)[0] : near(0, hops - 1);
                int dest = near(0, hops - 1);
                return same("route " + hop + " " + dest + " " + link, () -> real.route(hop, dest, link), () -> plain.route(hop, dest, link));
            }
            case 8:
            case 9: {
                int what = near(0, 4);
                int[] high = {31, 997, plain.w.base, plain.w.base - 1, 64};
                int top = what < 0 || what > 4 ? 9 : high[what];
                int v = near(0, random.nextInt(2) == 0 ? Math.min(top, 12) : top);
                return same("set " + what + " " + v, () -> real.set(what, v), () -> plain.set(what, v));
            }
            case 10: {
                int n = random.nextInt();
                int m = near(0, plain.tape.length());
                return same("feed", () -> real.feed(n, ~n, n, n, n), () -> plain.feed(n, ~n, n, n, n))
                    && (random.nextInt(12) > 0 || same("text " + m, () -> real.text(m), () -> plain.text(m)));
            }
            default: return send();
        }
    }

    boolean send() {
        int from = near(0, hops - 1), dest = near(0, hops - 1);
        int number = near(0, random.nextInt(2) == 0 ? 5 : 9999), size = near(1, random.nextInt(2) == 0 ? 3 : 200);
        int life = near(0, 12);
        return same("send " + List.of(from, dest, number, size, life),
            () -> real.send(from, dest, number, size, life), () -> plain.send(from, dest, number, size, life));
    }

    boolean ask() {
        return ask(random.nextInt(24));
    }

    boolean askOfWalks() {
        return ask(random.nextInt(6) == 0 ? 17 : 8 + random.nextInt(7));
    }

    private boolean ask(int what) {
        int a = near(0, hops - 1), b = near(0, hops - 1);
        int link = near(-1, plain.w.links.size() - 1);
        int packet = near(0, plain.w.sent.size() - 1);
        int label = random.nextInt(3) > 0 && plain.label(0) >= 0
            ? Math.max(0, plain.label(random.nextInt(5))) : near(0, plain.w.labels - 1);
        int k = near(0, 3), i = near(0, 6);
        switch (what) {
            case 0: return same("fault", real::fault, plain::fault);
            case 1: {
                int w = near(0, 13);
                return same("told " + w, () -> real.told(w), () -> plain.told(w));
            }
            case 2: {
                int w = near(0, 2);
                return same("linkTold " + link + " " + w, () -> real.linkTold(link, w), () -> plain.linkTold(link, w));
            }
            case 3: return same("routeTold " + a + " " + b, () -> real.routeTold(a, b), () -> plain.routeTold(a, b));
            case 4: {
                int w = near(0, 8);
                return same("packet " + packet + " " + w, () -> real.packet(packet, w), () -> plain.packet(packet, w));
            }
            case 5: {
                int w = near(0, 4), p = near(0, 12);
                return same("trail " + packet + " " + p + " " + w, () -> real.trail(packet, p, w), () -> plain.trail(packet, p, w));
            }
            case 6: {
                int hop = link >= 0 && link < plain.w.links.size() && random.nextInt(5) > 0 ? plain.w.links.get(link)[1] : a;
                return same("reports " + label + " " + hop + " " + link, () -> real.reports(label, hop, link), () -> plain.reports(label, hop, link));
            }
            case 7: {
                int w = near(0, 20);
                return same("label " + w, () -> real.label(w), () -> plain.label(w));
            }
            case 8:
            case 9: return same("joints " + label, () -> real.joints(label), () -> plain.joints(label));
            case 10:
            case 11: {
                int w = near(0, 3);
                return same("walk " + label + " " + k + " " + w, () -> real.walk(label, k, w), () -> plain.walk(label, k, w));
            }
            case 12:
            case 13: return same("walkAt " + label + " " + k + " " + i, () -> real.walkAt(label, k, i), () -> plain.walkAt(label, k, i));
            case 14: {
                int w = near(0, 4);
                return same("joined " + w, () -> real.joined(w), () -> plain.joined(w));
            }
            case 15:
            case 16: {
                int w = near(0, 3), part = near(0, 6);
                int of = w == 0 ? a : w == 3 ? near(0, 0) : link;
                return same("estimate " + w + " " + of + " " + part, () -> real.estimate(w, of, part), () -> plain.estimate(w, of, part));
            }
            case 17: {
                int part = near(0, 2);
                return same("matrix " + a + " " + b + " " + part, () -> real.matrix(a, b, part), () -> plain.matrix(a, b, part));
            }
            case 18: {
                int w = near(0, 3);
                return same("fates " + w, () -> real.fates(w), () -> plain.fates(w));
            }
            case 19: return same("leastLabels", real::leastLabels, plain::leastLabels);
            case 20: {
                int n = near(0, 10);
                boolean lower = random.nextBoolean();
                return same("unlike " + n + " " + lower, () -> real.unlike(n, lower), () -> plain.unlike(n, lower));
            }
            case 21: {
                int m = near(2, 64);
                return same("clashes " + m, () -> real.clashes(m), () -> plain.clashes(m));
            }
            case 22: {
                int w = near(0, 1), least = near(0, random.nextInt(2) == 0 ? 5 : 40);
                return random.nextInt(2) == 0
                    ? same("bestMask " + w, () -> real.bestMask(w), () -> plain.bestMask(w))
                    : same("bestKey " + least + " " + w, () -> real.bestKey(least, w), () -> plain.bestKey(least, w));
            }
            default: {
                int w = near(0, 2);
                return same("print", real::print, plain::print) && same("status " + w, () -> real.status(w), () -> plain.status(w));
            }
        }
    }
}
