import java.util.ArrayDeque;
import java.util.ArrayList;
import java.util.HashSet;
import java.util.List;
import java.util.Random;
import java.util.Set;
import java.util.TreeMap;
import java.util.Map;
import java.util.regex.Matcher;
import java.util.regex.Pattern;

/**
 * Random runs of calls on WordFletchers, each answer against a second, slower reading of the
 * document (Naive below), which shares nothing with the program.
 */
public final class RandomRuns {
    private static final int RUNS = 4000;
    private static final int CALLS = 512;
    private static final int[] WILD = {
        Integer.MIN_VALUE, Integer.MAX_VALUE, -2, -1, 6, 7, 9, 10, 31, 32, 64, 100, 400, 1000};

    private static final class Snap {
        int hour, damp;
        int[] feathers = new int[4];
        List<Set<Integer>> knows = new ArrayList<>();
        List<int[]> lying = new ArrayList<>();

        Snap copy() {
            Snap c = new Snap();
            c.hour = hour;
            c.damp = damp;
            c.feathers = feathers.clone();
            for (Set<Integer> k : knows) c.knows.add(new HashSet<>(k));
            for (int[] l : lying) c.lying.add(l.clone());
            return c;
        }
    }

    private static final class Naive {
        static final int BAD = -1, STATE = -2, FULL = -3, NONE = -9, NO = -1000000;
        StringBuilder text = new StringBuilder();
        List<int[]> people = new ArrayList<>(), sayings = new ArrayList<>(), seen = new ArrayList<>();
        List<Integer> winds = new ArrayList<>(List.of(0));
        Snap now = new Snap();
        ArrayDeque<Snap> past = new ArrayDeque<>();
        Snap[] image = new Snap[2];
        List<List<Snap>> imagePast = new ArrayList<>(List.of(List.of(), List.of()));
        long trace;

        Naive() { java.util.Arrays.fill(now.feathers, 9); }

        boolean in(int v, int least, int most) { return v >= least && v <= most; }
        boolean one(int p) { return in(p, 0, people.size() - 1); }
        boolean say(int s) { return in(s, 0, sayings.size() - 1); }

        int type(int c) {
            if (!in(c, 0, 255)) return BAD;
            if (text.length() == 120) return FULL;
            text.append((char) c);
            return text.length();
        }

        int clear() { int n = text.length(); text.setLength(0); return n; }

        /** By tokens found first, then judged by what may follow: a row of what is open. */
        int uplands() {
            List<int[]> ppl = new ArrayList<>(), say = new ArrayList<>();
            List<Integer> wnd = null;
            int[] fea = {9, 9, 9, 9};
            Matcher m = Pattern.compile("([a-z]+)|([0-9]+)|(;)|([^ ])", Pattern.DOTALL).matcher(text);
            char item = 0;
            List<Integer> args = new ArrayList<>();
            int items = 0;
            while (m.find()) {
                int fault = -10 - m.start();
                if (m.group(4) != null) return fault;
                if (item == 0) {
                    if (m.group(1) == null || m.group(1).length() != 1) return fault;
                    item = m.group(1).charAt(0);
                    if ("pswf".indexOf(item) < 0) return fault;
                    if (item == 'p' && ppl.size() == 6) return fault;
                    if (item == 's' && say.size() == 6) return fault;
                    if (item == 'w' && wnd != null) return fault;
                    args.clear();
                } else if (m.group(2) != null) {
                    String d = m.group(2);
                    if (d.length() > 2 || d.length() == 2 && d.charAt(0) == '0') return fault;
                    int v = Integer.parseInt(d);
                    int k = args.size();
                    boolean ok;
                    switch (item) {
                        case 'p': ok = k == 0 && v <= 30 || k == 1 && v <= 5; break;
                        case 's': ok = k == 0 && in(v, 1, 9) || k == 1 && v <= 3 || k == 2 && v < ppl.size(); break;
                        case 'w': ok = k < 6 && v <= 8; break;
                        default: ok = k == 0 && v <= 3 || k == 1 && v <= 20; break;
                    }
                    if (!ok) return fault;
                    args.add(v);
                } else if (m.group(3) != null) {
                    int k = args.size();
                    boolean ok = item == 'w' ? k >= 1 : k == (item == 's' ? 3 : 2);
                    if (!ok) return fault;
                    switch (item) {
                        case 'p': ppl.add(new int[] {args.get(0), args.get(1)}); break;
                        case 's': say.add(new int[] {args.get(0), args.get(1), args.get(2)}); break;
                        case 'w': wnd = new ArrayList<>(); for (int v : args) wnd.add(v - 4); break;
                        default: fea[args.get(0)] = args.get(1); break;
                    }
                    item = 0;
                    items++;
                } else {
                    return fault;
                }
            }
            if (item != 0) return -10 - text.length();
            people = ppl;
            sayings = say;
            winds = wnd == null ? new ArrayList<>(List.of(0)) : wnd;
            now = new Snap();
            now.feathers = fea;
            for (int p = 0; p < people.size(); p++) now.knows.add(new HashSet<>());
            for (int s = 0; s < sayings.size(); s++) now.knows.get(sayings.get(s)[2]).add(s);
            past.clear();
            seen.clear();
            image = new Snap[2];
            text.setLength(0);
            return items;
        }

        int bits(Iterable<Integer> set) { int b = 0; for (int i : set) b |= 1 << i; return b; }

        int one(int p, int what) {
            if (!one(p) || !in(what, 0, 2)) return BAD;
            return what < 2 ? people.get(p)[what] : bits(now.knows.get(p));
        }

        Set<Integer> knowers(int s) {
            Set<Integer> k = new HashSet<>();
            for (int p = 0; p < people.size(); p++) if (now.knows.get(p).contains(s)) k.add(p);
            return k;
        }

        int saying(int s, int what) {
            if (!say(s) || !in(what, 0, 3)) return BAD;
            return what < 3 ? sayings.get(s)[what] : bits(knowers(s));
        }

        int windAt(int hour) { return winds.get(hour % winds.size()); }
        int wind(int n) { return in(n, 0, 99) ? windAt(now.hour + n) : NO; }

        int stray(int i, int what) {
            if (!in(i, 0, 7) || !in(what, 0, 1)) return BAD;
            return i < now.lying.size() ? now.lying.get(i)[what] : NONE;
        }

        /** The place, or NONE. */
        int land(int p, int s, int feather, int n, int side, int wind, int damp) {
            int weight = sayings.get(s)[0], twist = sayings.get(s)[1], at = people.get(p)[0];
            if (n == 0) {
                int to = at + (side == 1 ? -twist : twist);
                if (twist > 0) to += wind;
                return in(to, 0, 30) ? to : NONE;
            }
            int lift = feather == 0 ? 3 : feather == 1 ? 6 : feather == 2 ? 4 : 2;
            int flight = lift * n + twist - weight;
            if (feather != 2) flight -= damp;
            if (flight < 0) flight = 0;
            int to = side == 1 ? at + flight : at - flight;
            if (flight > 0 && feather != 3) to += wind;
            return in(to, 0, 30) ? to : NONE;
        }

        Set<Integer> hear(int p, int place) {
            Set<Integer> h = new HashSet<>();
            if (place == NONE) return h;
            for (int q = 0; q < people.size(); q++) {
                int[] o = people.get(q);
                if (q != p && in(place, o[0] - o[1], o[0] + o[1])) h.add(q);
            }
            return h;
        }

        boolean shotBad(int feather, int n, int side) { return !in(feather, 0, 3) || !in(n, 0, 3) || !in(side, 0, 1); }

        void remember() { past.addLast(now.copy()); if (past.size() > 10) past.removeFirst(); }

        int lets(int p, int s, int feather, int n, int side) {
            if (!one(p) || !say(s) || shotBad(feather, n, side)) return BAD;
            if (!now.knows.get(p).contains(s) || now.feathers[feather] < n) return STATE;
            remember();
            int at = land(p, s, feather, n, side, windAt(now.hour), now.damp);
            Set<Integer> h = hear(p, at);
            now.feathers[feather] -= n;
            for (int q : h) now.knows.get(q).add(s);
            if (h.isEmpty() && at != NONE) now.lying.add(new int[] {s, at});
            if (now.lying.size() > 8) now.lying.remove(0);
            return bits(h);
        }

        int picks(int p) {
            if (!one(p)) return BAD;
            for (int i = 0; i < now.lying.size(); i++) {
                if (now.lying.get(i)[1] == people.get(p)[0]) {
                    remember();
                    int s = now.lying.remove(i)[0];
                    now.knows.get(p).add(s);
                    return s;
                }
            }
            return STATE;
        }

        int hours(int n) {
            if (!in(n, 1, 9)) return BAD;
            if (now.hour + n > 999) return STATE;
            remember();
            return now.hour += n;
        }

        int damps(int n) {
            if (!in(n, 0, 5)) return BAD;
            if (n == now.damp) return STATE;
            remember();
            int was = now.damp;
            now.damp = n;
            return was;
        }

        int plucks(int f, int n) {
            if (!in(f, 0, 3) || !in(n, 1, 9)) return BAD;
            if (now.feathers[f] == 20) return STATE;
            remember();
            now.feathers[f] += n;
            if (now.feathers[f] > 20) now.feathers[f] = 20;
            return now.feathers[f];
        }

        int undo() {
            if (past.isEmpty()) return STATE;
            now = past.removeLast();
            return past.size();
        }

        int now(int what) {
            if (!in(what, 0, 6)) return BAD;
            return what == 0 ? now.hour : what == 1 ? now.damp : what == 6 ? now.lying.size() : now.feathers[what - 2];
        }

        int lands(int p, int s, int f, int n, int side) {
            if (!one(p) || !say(s) || shotBad(f, n, side)) return BAD;
            return land(p, s, f, n, side, windAt(now.hour), now.damp);
        }

        boolean hits(int p, int other, int s, int f, int n, int side, int wind) {
            return hear(p, land(p, s, f, n, side, wind, now.damp)).contains(other);
        }

        int call(int p, int other, int s) {
            if (!one(p) || !one(other) || p == other || !say(s)) return BAD;
            TreeMap<Integer, Integer> ranked = new TreeMap<>();
            for (int f = 0; f < 4; f++) for (int n = 0; n < 4; n++) for (int side = 0; side < 2; side++) {
                if (!hits(p, other, s, f, n, side, windAt(now.hour))) continue;
                int kind = n == 0 ? 0 : f;
                ranked.put(n * 100 + kind * 10 + side, 100 * kind + 10 * n + side);
            }
            return ranked.isEmpty() ? NONE : ranked.firstEntry().getValue();
        }

        boolean noShot(int shot) { return shot < 0 || shotBad(shot / 100, shot / 10 % 10, shot % 10); }

        int waits(int p, int other, int s, int shot) {
            if (!one(p) || !one(other) || p == other || !say(s) || noShot(shot)) return BAD;
            for (int h = 0; h < 13; h++) {
                if (hits(p, other, s, shot / 100, shot / 10 % 10, shot % 10, windAt(now.hour + h))) return h;
            }
            return NONE;
        }

        /** How many SHOTS from a set of knowers to one: by sets. */
        int shots(int s, int set, int to) {
            Map<Integer, Integer> far = new TreeMap<>();
            ArrayDeque<Integer> open = new ArrayDeque<>();
            far.put(set, 0);
            open.add(set);
            while (!open.isEmpty()) {
                int at = open.removeFirst();
                if ((at >> to & 1) == 1) return far.get(at);
                for (int p = 0; p < people.size(); p++) {
                    if ((at >> p & 1) == 0) continue;
                    for (int f = 0; f < 4; f++) for (int n = 0; n < 4; n++) for (int side = 0; side < 2; side++) {
                        int next = at | bits(hear(p, land(p, s, f, n, side, windAt(now.hour), now.damp)));
                        if (!far.containsKey(next)) { far.put(next, far.get(at) + 1); open.add(next); }
                    }
                }
            }
            return NONE;
        }

        int relay(int s, int to, int what) {
            if (!say(s) || !one(to) || !in(what, 0, 2)) return BAD;
            int set = bits(knowers(s));
            int need = shots(s, set, to);
            if (what == 0 || need == NONE) return need;
            if (need == 0) return NONE;
            for (int p : new java.util.TreeSet<>(knowers(s))) {
                for (int f = 0; f < 4; f++) for (int n = f == 0 ? 0 : 1; n < 4; n++) for (int side = 0; side < 2; side++) {
                    int next = set | bits(hear(p, land(p, s, f, n, side, windAt(now.hour), now.damp)));
                    if (next != set && shots(s, next, to) == need - 1) return what == 1 ? p : 100 * f + 10 * n + side;
                }
            }
            throw new AssertionError("no first shot");
        }

        int[] best;

        void tryAll(int set, int s, int[] way, int[] left, int cost) {
            if (best != null && cost > best[6]) return;
            if (s == sayings.size()) {
                if (best == null || cost < best[6]) { best = java.util.Arrays.copyOf(way, 7); best[6] = cost; }
                return;
            }
            if ((set >> s & 1) == 0) { tryAll(set, s + 1, way, left, cost); return; }
            int p = sayings.get(s)[2];
            for (int f = 0; f < 4; f++) for (int n = f == 0 ? 0 : 1; n < 4; n++) {
                if (left[f] < n) continue;
                if (hear(p, land(p, s, f, n, 1, windAt(now.hour), now.damp)).isEmpty()) continue;
                left[f] -= n;
                way[s] = 10 * f + n;
                tryAll(set, s + 1, way, left, cost + n);
                left[f] += n;
            }
        }

        int allot(int set, int s) {
            if (set < 1 || set >= 1 << sayings.size()) return BAD;
            if (s != -1 && (!say(s) || (set >> s & 1) == 0)) return BAD;
            best = null;
            tryAll(set, 0, new int[7], now.feathers.clone(), 0);
            return best == null ? NONE : s == -1 ? best[6] : best[s];
        }

        int odds(int p, int other, int s, int shot, int what) {
            if (!one(p) || !one(other) || p == other || !say(s) || noShot(shot) || !in(what, 0, 1)) return BAD;
            int k = 0;
            for (int w : winds) if (hits(p, other, s, shot / 100, shot / 10 % 10, shot % 10, w)) k++;
            int g = java.math.BigInteger.valueOf(k).gcd(java.math.BigInteger.valueOf(winds.size())).intValue();
            return (what == 0 ? k : winds.size()) / g;
        }

        int saw(int s, int place) {
            if (!say(s) || !in(place, 0, 30)) return BAD;
            if (seen.size() == 4) return FULL;
            seen.add(new int[] {s, place, now.hour, now.damp});
            return seen.size();
        }

        int forget() { int n = seen.size(); seen.clear(); return n; }

        Set<Integer> landings(int p, int s, int hour, int damp) {
            Set<Integer> at = new HashSet<>();
            for (int f = 0; f < 4; f++) for (int n = 0; n < 4; n++) for (int side = 0; side < 2; side++) {
                at.add(land(p, s, f, n, side, windAt(hour), damp));
            }
            at.remove(NONE);
            return at;
        }

        int who() {
            int w = 0;
            for (int p = 0; p < people.size(); p++) {
                boolean all = true;
                for (int[] e : seen) all &= landings(p, e[0], e[2], e[3]).contains(e[1]);
                if (all) w |= 1 << p;
            }
            return w;
        }

        int ask() {
            int w = who();
            if (Integer.bitCount(w) < 2) return NONE;
            int best = NONE, least = 99;
            for (int s = 0; s < sayings.size(); s++) {
                Map<Integer, Integer> tally = new TreeMap<>();
                for (int p = 0; p < people.size(); p++) {
                    if ((w >> p & 1) == 1) tally.merge(landings(p, s, now.hour, now.damp).size(), 1, Integer::sum);
                }
                int most = java.util.Collections.max(tally.values());
                if (most < least) { least = most; best = s; }
            }
            return best;
        }

        int mark(int kind, int p) {
            if (!in(kind, 0, 5) || !one(p)) return NO;
            int place = people.get(p)[0];
            switch (kind) {
                case 0: trace += 1; return place;
                case 1: trace += 11; return place + now.knows.get(p).size();
                case 2: trace += 101; return place - now.damp;
                case 3: trace += 1011; return 2 * (place + now.knows.get(p).size());
                case 4: trace += 10101; return place - now.damp + p;
                default: trace += 100001; return place + java.util.Arrays.stream(now.feathers).sum();
            }
        }

        int keep(int i) {
            if (!in(i, 0, 1)) return BAD;
            image[i] = now.copy();
            List<Snap> kept = new ArrayList<>();
            for (Snap s : past) kept.add(s.copy());
            imagePast.set(i, kept);
            return now.hour;
        }

        int back(int i) {
            if (!in(i, 0, 1)) return BAD;
            if (image[i] == null) return STATE;
            now = image[i].copy();
            past.clear();
            for (Snap s : imagePast.get(i)) past.addLast(s.copy());
            return now.hour;
        }

        int count(int what) {
            switch (what) {
                case 0: return people.size();
                case 1: return sayings.size();
                case 2: return winds.size();
                case 3: return seen.size();
                case 4: return past.size();
                case 5: return text.length();
                default: return BAD;
            }
        }
    }

    private final Random random;
    private final WordFletchers real = new WordFletchers();
    private final Naive naive = new Naive();
    private final StringBuilder log = new StringBuilder();
    private int calls = 0;
    private boolean wrong = false;

    private RandomRuns(long seed) { random = new Random(seed); }

    private void same(String call, long got, long want) {
        calls++;
        log.append(call).append(" = ").append(got).append('\n');
        if (got != want) {
            wrong = true;
            log.append("   due is ").append(want).append('\n');
        }
    }

    private int below(int n) { return random.nextInt(n); }

    /** A number from 0 below n, rarely a wild one. */
    private int some(int n) {
        if (below(60) == 0) return WILD[below(WILD.length)];
        return below(Math.max(1, n));
    }

    private int somePerson() { return some(naive.people.size()); }
    private int someSaying() { return some(naive.sayings.size()); }
    private int someShot() { return 100 * some(4) + 10 * some(4) + some(2); }

    private String someText() {
        StringBuilder t = new StringBuilder();
        int p = 1 + below(6);
        int near = 1 + below(3);
        for (int i = 0; i < p; i++) {
            t.append('p').append(Math.min(30, below(31 / near) + below(near))).append(' ').append(below(below(3) == 0 ? 6 : 3)).append(';');
        }
        int s = below(8) == 0 ? 0 : 1 + below(6);
        for (int i = 0; i < s; i++) {
            t.append('s').append(1 + below(9)).append(' ').append(below(4)).append(' ').append(below(p)).append(';');
        }
        if (below(4) > 0) {
            t.append('w');
            int n = 1 + below(6);
            for (int i = 0; i < n; i++) t.append(i == 0 ? "" : " ").append(below(9));
            t.append(';');
        }
        for (int f = 0; f < 4 && t.length() < 110; f++) {
            if (below(3) == 0) t.append("f").append(f).append(' ').append(below(below(2) == 0 ? 4 : 21)).append(';');
        }
        if (below(3) == 0) spoil(t);
        return t.toString();
    }

    private void spoil(StringBuilder t) {
        String odd = "psfwx;; 0019 pP\t\u00e9\u0000-";
        for (int i = 1 + below(2); i > 0; i--) {
            int at = t.length() == 0 ? 0 : below(t.length() + 1);
            if (below(3) == 0 && at < t.length()) t.deleteCharAt(at);
            else t.insert(at, below(3) == 0 ? ' ' : odd.charAt(below(odd.length())));
        }
        if (below(8) == 0) t.setLength(below(t.length() + 1));
    }

    private void typeText(String text) {
        for (int i = 0; i < text.length(); i++) {
            int c = text.charAt(i);
            same("type(" + c + ")", real.type(c), naive.type(c));
        }
        same("uplands() of <" + naive.text + ">", real.uplands(), naive.uplands());
        if (naive.text.length() > 0 && below(3) > 0) same("clear()", real.clear(), naive.clear());
    }

    private void peek() {
        for (int w = 0; w < 7; w++) same("now(" + w + ")", real.now(w), naive.now(w));
        for (int w = 0; w < 6; w++) same("count(" + w + ")", real.count(w), naive.count(w));
        for (int p = 0; p < naive.people.size(); p++) same("one(" + p + ", 2)", real.one(p, 2), naive.one(p, 2));
        for (int i = 0; i < 8; i++) for (int w = 0; w < 2; w++) same("stray(" + i + ", " + w + ")", real.stray(i, w), naive.stray(i, w));
    }

    private void step() {
        int a = somePerson(), b = somePerson(), s = someSaying(), f = some(4), n = some(4), side = some(2), w;
        int shot = someShot();
        switch (below(30)) {
            case 0: w = some(4); same("one(" + a + ", " + w + ")", real.one(a, w), naive.one(a, w)); break;
            case 1: w = some(5); same("saying(" + s + ", " + w + ")", real.saying(s, w), naive.saying(s, w)); break;
            case 2: w = some(101); same("wind(" + w + ")", real.wind(w), naive.wind(w)); break;
            case 3: w = some(8); same("stray(" + w + ", " + side + ")", real.stray(w, side), naive.stray(w, side)); break;
            case 4: case 5: case 6: case 7:
                same("lets(" + a + ", " + s + ", " + f + ", " + n + ", " + side + ")", real.lets(a, s, f, n, side), naive.lets(a, s, f, n, side));
                break;
            case 8: same("picks(" + a + ")", real.picks(a), naive.picks(a)); break;
            case 9: w = some(11); same("hours(" + w + ")", real.hours(w), naive.hours(w)); break;
            case 10: w = some(7); same("damps(" + w + ")", real.damps(w), naive.damps(w)); break;
            case 11: w = some(11); same("plucks(" + f + ", " + w + ")", real.plucks(f, w), naive.plucks(f, w)); break;
            case 12: same("undo()", real.undo(), naive.undo()); break;
            case 13: w = some(8); same("now(" + w + ")", real.now(w), naive.now(w)); break;
            case 14: case 15:
                same("lands(" + a + ", " + s + ", " + f + ", " + n + ", " + side + ")", real.lands(a, s, f, n, side), naive.lands(a, s, f, n, side));
                break;
            case 16: case 17: same("call(" + a + ", " + b + ", " + s + ")", real.call(a, b, s), naive.call(a, b, s)); break;
            case 18: same("waits(" + a + ", " + b + ", " + s + ", " + shot + ")", real.waits(a, b, s, shot), naive.waits(a, b, s, shot)); break;
            case 19: case 20:
                for (w = -1; w < 4; w++) same("relay(" + s + ", " + b + ", " + w + ")", real.relay(s, b, w), naive.relay(s, b, w));
                break;
            case 21: case 22: {
                int set = some(1 << naive.sayings.size());
                for (w = -2; w < 7; w++) same("allot(" + set + ", " + w + ")", real.allot(set, w), naive.allot(set, w));
                break;
            }
            case 23: w = some(3); same("odds(" + a + ", " + b + ", " + s + ", " + shot + ", " + w + ")", real.odds(a, b, s, shot, w), naive.odds(a, b, s, shot, w)); break;
            case 24: {
                int at = some(32);
                if (below(3) > 0 && naive.one(a) && naive.say(s)) at = naive.land(a, s, below(4), below(4), below(2), naive.wind(0), naive.now.damp);
                same("saw(" + s + ", " + at + ")", real.saw(s, at), naive.saw(s, at));
                same("who()", real.who(), naive.who());
                break;
            }
            case 25:
                if (below(3) == 0) same("forget()", real.forget(), naive.forget());
                same("who()", real.who(), naive.who());
                same("ask()", real.ask(), naive.ask());
                break;
            case 26:
                w = some(7);
                same("mark(" + w + ", " + a + ")", real.mark(w, a), naive.mark(w, a));
                same("trace()", real.trace(), naive.trace);
                break;
            case 27: w = some(2); same("keep(" + w + ")", real.keep(w), naive.keep(w)); break;
            case 28: w = some(2); same("back(" + w + ")", real.back(w), naive.back(w)); break;
            default:
                if (below(12) == 0) { typeText(someText()); break; }
                w = some(257);
                same("type(" + w + ")", real.type(w), naive.type(w));
                same("uplands() of <" + naive.text + ">", real.uplands(), naive.uplands());
                same("clear()", real.clear(), naive.clear());
                break;
        }
    }

    private boolean run() {
        for (int tries = 0; tries < 3 && naive.people.isEmpty(); tries++) {
            if (naive.text.length() > 0) same("clear()", real.clear(), naive.clear());
            typeText(someText());
        }
        while (calls < CALLS && !wrong) {
            step();
            if (below(25) == 0) peek();
        }
        return !wrong;
    }

    public static void main(String[] args) {
        for (long seed = 1; seed <= RUNS; seed++) {
            RandomRuns runs = new RandomRuns(seed);
            if (!runs.run()) {
                System.out.println("random run " + seed + ":\n" + runs.log);
                System.exit(1);
            }
        }
        System.out.println("all " + RUNS + " random runs are as due");
    }
}
