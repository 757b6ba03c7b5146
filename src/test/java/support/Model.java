import java.util.ArrayDeque;
import java.util.ArrayList;
import java.util.Arrays;
import java.util.Deque;
import java.util.HashMap;
import java.util.HashSet;
import java.util.List;
import java.util.Map;
import java.util.Set;
import java.util.TreeSet;
import java.util.regex.Matcher;
import java.util.regex.Pattern;

/**
 * The document's words once more, as plainly as can be and in another manner than the class:
 * nothing is stored ahead, plans are copied whole, searches list what can be reached.
 */
final class Model {
    static final int BAD = -1, NO = -2, FULL = -3, NONE = -4;
    private static final Pattern ITEM = Pattern.compile("([a-z])([0-9]{1,2}(?:,[0-9]{1,2})*);");

    /** What is told by letter; n and g hold the last number. */
    static final class Told {
        final Map<Character, List<int[]>> rows = new HashMap<>();
        int minutes = 30;
        int going = 1;
        int fault = NONE;

        List<int[]> of(char letter) {
            return rows.computeIfAbsent(letter, l -> new ArrayList<>());
        }
    }

    /** A plan: where it begins, then minute and station of each going. */
    record Goings(int start, List<Integer> goings) { }

    /** What a watcher or a plan sees. */
    static final class Seen {
        int worth, goings;
        Set<Integer> facts = new TreeSet<>();
        List<Integer> on = new ArrayList<>();
    }

    final StringBuilder text = new StringBuilder();
    Told told;
    Goings plan;
    Deque<Goings> undo = new ArrayDeque<>();
    Deque<Goings> kept = new ArrayDeque<>();

    Model() {
        take(parse("n12;s2;s3;m0,2,4,7,0;b0,5,6;m1,5,5,9,1;b1,8,9;f0,1,2;w0,0;w1,0;w2,0;w3,1;"));
    }

    private void take(Told t) {
        told = t;
        plan = new Goings(0, List.of());
        undo.clear();
        kept.clear();
    }

    // ---- text

    static Told parse(String text) {
        Told t = new Told();
        Matcher m = ITEM.matcher(text);
        int p = 0;
        while (p < text.length()) {
            m.region(p, text.length());
            if (!m.lookingAt()) {
                t.fault = p;
                return t;
            }
            int[] v = Arrays.stream(m.group(2).split(",")).mapToInt(Integer::parseInt).toArray();
            if (!item(t, m.group(1).charAt(0), v)) {
                t.fault = p;
                return t;
            }
            p = m.end();
        }
        return t;
    }

    private static boolean in(int v, int a, int b) {
        return a <= v && v <= b;
    }

    private static boolean span(Told t, int[] v) {
        return v[0] < t.of('s').size() && v[1] < 60 && v[2] < 60 && v[1] <= v[2];
    }

    private static boolean item(Told t, char letter, int[] v) {
        int width = Map.of('n', 1, 's', 1, 'm', 5, 'b', 3, 'u', 4, 'g', 1, 'f', 3, 'w', 2).getOrDefault(letter, -1);
        int limit = Map.of('s', 4, 'm', 9, 'b', 6, 'u', 4, 'f', 6, 'w', 4).getOrDefault(letter, 1000);
        if (v.length != width || t.of(letter).size() >= limit) {
            return false;
        }
        boolean good = switch (letter) {
            case 'n' -> in(v[0], 1, 60);
            case 's' -> v[0] <= 9;
            case 'm' -> span(t, v) && v[3] <= 9 && v[4] <= 8;
            case 'b' -> span(t, v);
            case 'u' -> span(t, v) && v[3] <= 10;
            case 'g' -> v[0] <= 3;
            case 'f' -> v[0] <= 7 && v[1] <= 7 && v[2] <= 7;
            default -> v[0] <= 3 && v[1] < t.of('s').size();
        };
        if (letter == 'n') {
            t.minutes = v[0];
        }
        if (letter == 'g') {
            t.going = v[0];
        }
        if (good) {
            t.of(letter).add(v);
        }
        return good;
    }

    // ---- what is shown

    /** Which breaks come: bits of chances, the scene left out (or -1), the draw (or -1). */
    record Way(int coming, int without, int draw) { }

    static final Way USUAL = new Way(0, -1, -1);

    boolean broken(Way w, int s, int t) {
        if (w.draw >= 0) {
            java.math.BigInteger x = java.math.BigInteger.valueOf(7919L * w.draw + 6151L * t + 3571L * s + 1);
            return x.multiply(x).mod(java.math.BigInteger.valueOf(65521)).intValue() % 4 == 0;
        }
        for (int[] b : told.of('b')) {
            if (b[0] == s && in(t, b[1], b[2])) {
                return true;
            }
        }
        int c = 0;
        for (int[] u : told.of('u')) {
            if (((w.coming >> c++) & 1) == 1 && u[0] == s && in(t, u[1], u[2])) {
                return true;
            }
        }
        return false;
    }

    private int[] scene(Way w, int s, int t) {
        int[] found = null;
        for (int k = 0; k < told.of('m').size(); k++) {
            int[] m = told.of('m').get(k);
            if (k != w.without && m[0] == s && in(t, m[1], m[2])) {
                found = m;
            }
        }
        return found;
    }

    int worth(Way w, int s, int t) {
        if (broken(w, s, t)) {
            return 0;
        }
        int[] m = scene(w, s, t);
        return m == null ? told.of('s').get(s)[0] : m[3];
    }

    int fact(Way w, int s, int t) {
        int[] m = broken(w, s, t) ? null : scene(w, s, t);
        return m == null || m[4] == 8 ? NONE : m[4];
    }

    int close(int set) {
        int before;
        do {
            before = set;
            for (int[] f : told.of('f')) {
                if ((set >> f[0] & 1) == 1 && (set >> f[1] & 1) == 1) {
                    set |= 1 << f[2];
                }
            }
        } while (set != before);
        return set;
    }

    int bits(Seen seen) {
        int set = 0;
        for (int f : seen.facts) {
            set |= 1 << f;
        }
        return close(set);
    }

    int stations() {
        return told.of('s').size();
    }

    int watchers() {
        return told.of('w').size();
    }

    // ---- walks

    private int next(Way w, int here, int t) {
        if (!broken(w, here, t)) {
            return here;
        }
        for (int k = 1; k < stations(); k++) {
            if (!broken(w, (here + k) % stations(), t)) {
                return (here + k) % stations();
            }
        }
        return here;
    }

    private int wants(Way w, int kind, int own, int here, int t) {
        if (kind == 0) {
            return here;
        }
        if (kind == 1) {
            return next(w, here, t);
        }
        if (kind == 2) {
            return broken(w, own, t) ? next(w, here, t) : own;
        }
        int top = 0;
        for (int s = 0; s < stations(); s++) {
            top = Math.max(top, worth(w, s, t));
        }
        if (worth(w, here, t) == top) {
            return here;
        }
        int s = 0;
        while (worth(w, s, t) != top) {
            s++;
        }
        return s;
    }

    private void sees(Way w, Seen seen, int here, int t) {
        seen.on.add(here);
        seen.worth += worth(w, here, t);
        if (fact(w, here, t) != NONE) {
            seen.facts.add(fact(w, here, t));
        }
    }

    Seen kind(Way w, int kind, int own) {
        Seen seen = new Seen();
        int here = own;
        int blind = 0;
        for (int t = 0; t < told.minutes; t++) {
            if (blind == 0) {
                int goal = wants(w, kind, own, here, t);
                if (goal != here) {
                    here = goal;
                    blind = told.going;
                    seen.goings++;
                }
            }
            if (blind > 0) {
                blind--;
                seen.on.add(NONE);
            } else {
                sees(w, seen, here, t);
            }
        }
        return seen;
    }

    /** Which goings are done. */
    List<Boolean> done() {
        List<Boolean> list = new ArrayList<>();
        int here = plan.start;
        int last = -100;
        for (int k = 0; k < plan.goings.size(); k += 2) {
            int t = plan.goings.get(k);
            boolean can = t > last && t >= last + told.going && plan.goings.get(k + 1) != here;
            if (can) {
                last = t;
                here = plan.goings.get(k + 1);
            }
            list.add(can);
        }
        return list;
    }

    Seen planned(Way w) {
        Seen seen = new Seen();
        List<Boolean> done = done();
        for (int t = 0; t < told.minutes; t++) {
            int here = plan.start;
            int last = -100;
            for (int k = 0; k < done.size(); k++) {
                if (done.get(k) && plan.goings.get(2 * k) <= t) {
                    last = plan.goings.get(2 * k);
                    here = plan.goings.get(2 * k + 1);
                }
            }
            if (t < last + told.going) {
                seen.on.add(NONE);
            } else {
                sees(w, seen, here, t);
            }
        }
        for (boolean b : done) {
            seen.goings += b ? 1 : 0;
        }
        return seen;
    }

    Seen of(Way w, int i) {
        if (i == -1) {
            return planned(w);
        }
        int[] row = told.of('w').get(i);
        return kind(w, row[0], row[1]);
    }

    // ---- the calls

    private boolean station(int s) {
        return in(s, 0, stations() - 1);
    }

    private boolean minuteThere(int t) {
        return in(t, 0, told.minutes - 1);
    }

    private boolean watcherThere(int i) {
        return in(i, 0, watchers() - 1);
    }

    int write(int letter) {
        if (!in(letter, 32, 126)) {
            return BAD;
        }
        if (text.length() == 200) {
            return FULL;
        }
        text.append((char) letter);
        return text.length();
    }

    int wipe() {
        int was = text.length();
        text.setLength(0);
        return was;
    }

    int fault() {
        return parse(text.toString()).fault;
    }

    int lay() {
        Told t = parse(text.toString());
        if (t.fault != NONE || t.of('s').isEmpty()) {
            return NO;
        }
        take(t);
        return stations();
    }

    int minute(int s, int t, int what) {
        if (!station(s) || !minuteThere(t) || !in(what, 0, 2)) {
            return BAD;
        }
        return what == 0 ? worth(USUAL, s, t) : what == 1 ? fact(USUAL, s, t) : broken(USUAL, s, t) ? 1 : 0;
    }

    int known(int set) {
        return in(set, 0, 255) ? close(set) : BAD;
    }

    int watcher(int i, int what) {
        if (!watcherThere(i) || !in(what, 0, 5)) {
            return BAD;
        }
        int[] row = told.of('w').get(i);
        Seen seen = of(USUAL, i);
        return new int[] {row[0], row[1], seen.worth, bits(seen), seen.goings, most(row[1], 0, 0) - seen.worth}[what];
    }

    int where(int i, int t) {
        return !watcherThere(i) || !minuteThere(t) ? BAD : of(USUAL, i).on.get(t);
    }

    private void change(Goings to) {
        undo.push(plan);
        if (undo.size() > 8) {
            undo.removeLast();
        }
        plan = to;
    }

    int begin(int s) {
        if (!station(s)) {
            return BAD;
        }
        int was = plan.start;
        if (was != s) {
            change(new Goings(s, plan.goings));
        }
        return was;
    }

    int over(int t, int s) {
        if (!minuteThere(t) || !station(s)) {
            return BAD;
        }
        if (plan.goings.size() == 18) {
            return FULL;
        }
        List<Integer> more = new ArrayList<>(plan.goings);
        more.add(t);
        more.add(s);
        change(new Goings(plan.start, more));
        return more.size() / 2;
    }

    int undo() {
        if (undo.isEmpty()) {
            return NO;
        }
        plan = undo.pop();
        return undo.size();
    }

    int judge() {
        int k = done().indexOf(false);
        return k < 0 ? NONE : k;
    }

    int plan(int what) {
        if (!in(what, 0, 2)) {
            return BAD;
        }
        Seen seen = planned(USUAL);
        return what == 0 ? seen.worth : what == 1 ? bits(seen) : seen.goings;
    }

    int at(int t) {
        return minuteThere(t) ? planned(USUAL).on.get(t) : BAD;
    }

    /** Greatest worth, latest first going (1000: none), its station: {worth, minute, station}. */
    private int[] best(int s, int t, Map<Integer, int[]> found) {
        if (t >= told.minutes) {
            return new int[] {0, 1000, 1000};
        }
        int key = t * 4 + s;
        if (found.containsKey(key)) {
            return found.get(key);
        }
        int[] stay = best(s, t + 1, found);
        int[] top = {stay[0] + worth(USUAL, s, t), stay[1], stay[2]};
        for (int g = 0; g < stations(); g++) {
            if (g != s) {
                int w = told.going == 0
                    ? worth(USUAL, g, t) + best(g, t + 1, found)[0]
                    : best(g, t + told.going, found)[0];
                if (w > top[0]) {
                    top = new int[] {w, t, g};
                }
            }
        }
        found.put(key, top);
        return top;
    }

    int most(int s, int t, int what) {
        if (!station(s) || !minuteThere(t) || !in(what, 0, 2)) {
            return BAD;
        }
        int v = best(s, t, new HashMap<>())[what];
        return v == 1000 ? NONE : v;
    }

    /** What can be reached by so many goings behind so many minutes: {goings, minutes}, known. */
    private Set<List<Integer>> reached(int s, int set) {
        Set<List<Integer>> found = new HashSet<>();
        Deque<List<Integer>> open = new ArrayDeque<>();
        Set<List<Integer>> met = new HashSet<>();
        open.push(List.of(0, s, 0, 0));
        while (!open.isEmpty()) {
            List<Integer> x = open.pop();
            int t = x.get(0);
            if (x.get(3) > 6 || t > told.minutes || !met.add(x)) {
                continue;
            }
            if ((close(x.get(2)) & set) == set) {
                found.add(List.of(x.get(3), t));
                continue;
            }
            if (t == told.minutes) {
                continue;
            }
            for (int g = 0; g < stations(); g++) {
                int more = g == x.get(1) ? 0 : 1;
                int blind = more * told.going;
                if (blind > 0) {
                    open.push(List.of(t + blind, g, x.get(2), x.get(3) + 1));
                } else {
                    int f = fact(USUAL, g, t);
                    open.push(List.of(t + 1, g, x.get(2) | (f == NONE ? 0 : 1 << f), x.get(3) + more));
                }
            }
        }
        return found;
    }

    int understand(int s, int set, int what) {
        if (!station(s) || !in(set, 0, 255) || !in(what, 0, 1)) {
            return BAD;
        }
        List<Integer> top = null;
        for (List<Integer> r : reached(s, set)) {
            if (top == null || r.get(0) < top.get(0) || r.get(0).equals(top.get(0)) && r.get(1) < top.get(1)) {
                top = r;
            }
        }
        return top == null ? NONE : top.get(what);
    }

    int soonest(int s, int set) {
        if (!station(s) || !in(set, 0, 255)) {
            return BAD;
        }
        return reached(s, set).stream().mapToInt(r -> r.get(1)).min().orElse(NONE);
    }

    int ask(int knows, int set) {
        if (!in(knows, 0, 255) || !in(set, 0, 255)) {
            return BAD;
        }
        int has = close(knows);
        for (int many = 0; many <= 8; many++) {
            for (int q = 0; q < 256; q++) {
                if (Integer.bitCount(q) == many && (q & has) == 0 && (close(has | q) & set) == set) {
                    return q;
                }
            }
        }
        return -99;
    }

    private int[] shares(int[] holders) {
        int[] has = new int[watchers()];
        for (int t = 0; t < told.minutes; t++) {
            int turn = t / 10;
            int on = told.of('w').get(holders[turn])[1];
            boolean other = turn > 0 && told.of('w').get(holders[turn - 1])[1] != on;
            if (other && t % 10 < told.going) {
                continue;
            }
            for (int i = 0; i < has.length; i++) {
                if (told.of('w').get(i)[1] == on) {
                    has[i] += worth(USUAL, on, t);
                }
            }
        }
        return has;
    }

    private int[] fairest(int[] holders, int turn) {
        if (turn == holders.length) {
            return holders.clone();
        }
        int[] top = null;
        for (int i = 0; i < watchers(); i++) {
            holders[turn] = i;
            int[] way = fairest(holders, turn + 1);
            if (top == null || least(way) > least(top)) {
                top = way;
            }
        }
        return top;
    }

    private int least(int[] way) {
        return Arrays.stream(shares(way)).min().getAsInt();
    }

    int fair(int k, int what) {
        int turns = (told.minutes + 9) / 10;
        int bound = what == 0 ? 1 : what == 1 ? turns : what == 2 ? Math.max(1, watchers()) : 0;
        if (!in(k, 0, bound - 1)) {
            return BAD;
        }
        if (watchers() == 0) {
            return NONE;
        }
        int[] way = fairest(new int[turns], 0);
        return what == 0 ? least(way) : what == 1 ? way[k] : shares(way)[k];
    }

    private long weight(int coming) {
        long w = 1;
        for (int c = 0; c < told.of('u').size(); c++) {
            int p = told.of('u').get(c)[3];
            w *= (coming >> c & 1) == 1 ? p : 10 - p;
        }
        return w;
    }

    int mean(int i, int part) {
        if (!(i == -1 || watcherThere(i)) || !in(part, 0, 1)) {
            return BAD;
        }
        long above = 0;
        long below = 0;
        for (int c = 0; c < 1 << told.of('u').size(); c++) {
            above += weight(c) * of(new Way(c, -1, -1), i).worth;
            below += weight(c);
        }
        for (int d = 2; d <= 5; d++) {
            while (above % d == 0 && below % d == 0) {
                above /= d;
                below /= d;
            }
        }
        return (int) (part == 0 ? above : below);
    }

    int sure(int i) {
        if (!(i == -1 || watcherThere(i))) {
            return BAD;
        }
        int set = 255;
        for (int c = 0; c < 1 << told.of('u').size(); c++) {
            if (weight(c) != 0) {
                set &= bits(of(new Way(c, -1, -1), i));
            }
        }
        return set;
    }

    int fits(int set) {
        if (!in(set, 0, 255)) {
            return BAD;
        }
        int found = 0;
        for (int b = 0; b < 16; b++) {
            if (b % 4 < stations() && bits(kind(USUAL, b / 4, b % 4)) == set) {
                found |= 1 << b;
            }
        }
        return found;
    }

    int matters(int i) {
        if (!watcherThere(i)) {
            return BAD;
        }
        Seen with = of(USUAL, i);
        int found = 0;
        for (int m = 0; m < told.of('m').size(); m++) {
            Seen seen = of(new Way(0, m, -1), i);
            if (seen.worth != with.worth || bits(seen) != bits(with)) {
                found |= 1 << m;
            }
        }
        return found;
    }

    int night(int z, int i, int what) {
        if (!in(z, 0, 9999) || !watcherThere(i) || !in(what, 0, 1)) {
            return BAD;
        }
        Seen seen = of(new Way(0, -1, z), i);
        return what == 0 ? seen.worth : seen.goings;
    }

    int keep() {
        if (kept.size() == 2) {
            return FULL;
        }
        kept.push(plan);
        return kept.size();
    }

    int back() {
        if (kept.isEmpty()) {
            return NO;
        }
        plan = kept.pop();
        undo.clear();
        return kept.size();
    }

    int count(int what) {
        if (!in(what, 0, 9)) {
            return BAD;
        }
        return new int[] {stations(), told.minutes, told.of('m').size(), told.of('b').size(), told.of('u').size(),
            watchers(), plan.goings.size() / 2, undo.size(), kept.size(), text.length()}[what];
    }
}
