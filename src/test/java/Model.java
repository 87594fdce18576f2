import java.util.ArrayList;
import java.util.HashMap;
import java.util.List;
import java.util.Map;
import java.util.Set;
import java.util.TreeMap;
import java.util.TreeSet;

/**
 * The document a second time, as slowly as its words go: one state, one row and one world (sure,
 * or may) at a time, with sets and maps instead of bits. It answers as PastWeb has to.
 */
final class Model {
    static final long ILLEGAL_ARGUMENT = Long.MIN_VALUE;
    static final long ILLEGAL_STATE = Long.MIN_VALUE + 1;

    static final class World {
        int a;
        int b;
        boolean read = true;
        final TreeMap<Integer, int[]> parts = new TreeMap<>();
        final TreeSet<String> links = new TreeSet<>();
        Set<Integer> before = new TreeSet<>();

        boolean linked(int kind, int from, int to) {
            return links.contains(kind + ":" + from + ":" + to);
        }

        List<Integer> ahead() {
            List<Integer> all = new ArrayList<>();
            if (a >= 0) {
                all.add(a);
            }
            if (b >= 0) {
                all.add(b);
            }
            return all;
        }
    }

    static final class Asked {
        int kind;
        int n;
        int u;
        int w;
        int a;
        int b;
        Set<Integer> free = new TreeSet<>();
        int cost = 1;
        int deep = 1;
    }

    static final class Held {
        int what;
        int term;
        long[] row;
    }

    final List<World> worlds = new ArrayList<>();
    final List<Asked> terms = new ArrayList<>();
    final List<Integer> keptTerms = new ArrayList<>();
    final List<Map<Integer, Set<Integer>>> keptRows = new ArrayList<>();
    final Held[] shelves = new Held[8];
    private final Map<String, Boolean> known = new HashMap<>();

    static boolean below(int x, int end) {
        return 0 <= x && x < end;
    }

    static long bits(Iterable<Integer> numbers) {
        long bits = 0;
        for (int i : numbers) {
            bits |= 1L << i;
        }
        return bits;
    }

    private World latest() {
        known.clear();
        return worlds.get(worlds.size() - 1);
    }

    long state(int a, int b) {
        int n = worlds.size();
        if (a < -1 || b < -1 || a >= n || b >= n || a == -1 && b != -1 || a != -1 && a == b) {
            return -1;
        }
        if (n == 30) {
            return -2;
        }
        World w = new World();
        w.a = a;
        w.b = b;
        for (int other : w.ahead()) {
            World o = worlds.get(other);
            w.before.add(other);
            w.before.addAll(o.before);
            for (int p : o.parts.keySet()) {
                if (!w.parts.containsKey(p)) {
                    w.parts.put(p, o.parts.get(p).clone());
                }
            }
            w.links.addAll(o.links);
        }
        worlds.add(w);
        known.clear();
        return n;
    }

    long put(int part, int sort, int shape) {
        if (!below(part, 16) || !below(sort, 4) || !below(shape, 100)) {
            return -1;
        }
        if (worlds.isEmpty()) {
            return -3;
        }
        return latest().parts.put(part, new int[] {sort, shape}) == null ? 1 : 0;
    }

    long gone(int part) {
        if (!below(part, 16)) {
            return -1;
        }
        if (worlds.isEmpty()) {
            return -3;
        }
        if (!latest().parts.containsKey(part)) {
            return -4;
        }
        latest().parts.remove(part);
        int went = 0;
        for (String link : new ArrayList<>(latest().links)) {
            String[] of = link.split(":");
            if (of[1].equals("" + part) || of[2].equals("" + part)) {
                latest().links.remove(link);
                went++;
            }
        }
        return went;
    }

    long link(int kind, int from, int to, boolean is) {
        if (!below(kind, 3) || !below(from, 16) || !below(to, 16)) {
            return -1;
        }
        if (worlds.isEmpty()) {
            return -3;
        }
        if (!latest().parts.containsKey(from) || !latest().parts.containsKey(to)) {
            return -4;
        }
        String name = kind + ":" + from + ":" + to;
        return (is ? latest().links.add(name) : latest().links.remove(name)) ? 1 : 0;
    }

    long read(boolean is) {
        if (worlds.isEmpty()) {
            return -3;
        }
        boolean was = latest().read;
        latest().read = is;
        return was == is ? 0 : 1;
    }

    long undo() {
        if (worlds.isEmpty()) {
            return -3;
        }
        if (!keptTerms.isEmpty()) {
            return -4;
        }
        worlds.remove(worlds.size() - 1);
        known.clear();
        return worlds.size();
    }

    private Set<Integer> changed(World w) {
        Set<Integer> changed = new TreeSet<>();
        if (!w.read) {
            return changed;
        }
        for (int p = 0; p < 16; p++) {
            if (w.a == -1) {
                if (w.parts.containsKey(p)) {
                    changed.add(p);
                }
                continue;
            }
            World o = worlds.get(w.a);
            boolean here = w.parts.containsKey(p);
            boolean there = o.parts.containsKey(p);
            if (here != there) {
                changed.add(p);
            } else if (here && !leading(w, p).equals(leading(o, p))) {
                changed.add(p);
            }
        }
        return changed;
    }

    private static String leading(World w, int part) {
        StringBuilder all = new StringBuilder();
        all.append(w.parts.get(part)[0]).append('/').append(w.parts.get(part)[1]);
        for (String link : w.links) {
            if (link.split(":")[1].equals("" + part)) {
                all.append(' ').append(link);
            }
        }
        return all.toString();
    }

    long look(int state, int what) {
        if (!below(state, worlds.size()) || !below(what, 7)) {
            return -1;
        }
        World w = worlds.get(state);
        switch (what) {
            case 0: return w.a == -1 ? -2 : w.a;
            case 1: return w.b == -1 ? -2 : w.b;
            case 2: return bits(w.before);
            case 3: return w.read ? 1 : 0;
            case 4: return bits(w.parts.keySet());
            case 5: return w.links.size();
            default: return bits(changed(w));
        }
    }

    long part(int state, int part, int what) {
        if (!below(state, worlds.size()) || !below(part, 16) || !below(what, 6)) {
            return -1;
        }
        World w = worlds.get(state);
        if (what == 5) {
            return went(w).getOrDefault(part, -2);
        }
        if (!w.parts.containsKey(part)) {
            return -4;
        }
        if (what < 2) {
            return w.parts.get(part)[what];
        }
        long to = 0;
        for (int p = 0; p < 16; p++) {
            if (w.linked(what - 2, part, p)) {
                to |= 1L << p;
            }
        }
        return to;
    }

    private Map<Integer, Integer> went(World w) {
        Map<Integer, Integer> went = new TreeMap<>();
        if (w.a == -1) {
            return went;
        }
        World o = worlds.get(w.a);
        for (int lost : o.parts.keySet()) {
            if (w.parts.containsKey(lost)) {
                continue;
            }
            for (int come : w.parts.keySet()) {
                if (!o.parts.containsKey(come) && !went.containsValue(come)
                        && java.util.Arrays.equals(o.parts.get(lost), w.parts.get(come))) {
                    went.put(lost, come);
                    break;
                }
            }
        }
        return went;
    }

    long roads(int from, int to) {
        if (!below(from, worlds.size()) || !below(to, worlds.size())) {
            return ILLEGAL_ARGUMENT;
        }
        if (from == to) {
            return 1;
        }
        long ways = 0;
        for (int ahead : worlds.get(to).ahead()) {
            ways += ahead < from ? 0 : roads(from, ahead);
        }
        return ways;
    }

    private Set<Integer> selfAndBefore(int state) {
        Set<Integer> all = new TreeSet<>(worlds.get(state).before);
        all.add(state);
        return all;
    }

    long meet(int state, int other) {
        if (!below(state, worlds.size()) || !below(other, worlds.size())) {
            return -1;
        }
        Set<Integer> common = selfAndBefore(state);
        common.retainAll(selfAndBefore(other));
        Set<Integer> last = new TreeSet<>();
        for (int c : common) {
            boolean passed = false;
            for (int d : common) {
                passed |= worlds.get(d).before.contains(c);
            }
            if (!passed) {
                last.add(c);
            }
        }
        return bits(last);
    }

    long between(int from, int to) {
        if (!below(from, worlds.size()) || !below(to, worlds.size())) {
            return -1;
        }
        Set<Integer> on = new TreeSet<>();
        for (int i = 0; i < worlds.size(); i++) {
            if (roads(from, i) > 0 && roads(i, to) > 0) {
                on.add(i);
            }
        }
        return bits(on);
    }

    long together(int part, int other, int what) {
        if (!below(part, 16) || !below(other, 16) || !below(what, 3)) {
            return -1;
        }
        int[] times = new int[3];
        for (World w : worlds) {
            Set<Integer> changed = changed(w);
            if (changed.contains(part) && changed.contains(other)) {
                times[0]++;
            } else if (changed.contains(part)) {
                times[1]++;
            } else if (changed.contains(other)) {
                times[2]++;
            }
        }
        return times[what];
    }

    private static boolean sign(int u) {
        return below(u, 3) || 10 <= u && u <= 25;
    }

    private long add(Asked t) {
        terms.add(t);
        return terms.size() - 1;
    }

    private static void use(Asked t, int u) {
        if (u < 3) {
            t.free.add(u);
        }
    }

    long of(int kind, int u, int n) {
        if (!below(kind, 3) || !sign(u) || kind == 1 && !below(n, 4) || kind == 2 && !below(n, 100)) {
            return -1;
        }
        if (terms.size() == 60) {
            return -2;
        }
        Asked t = new Asked();
        t.kind = kind;
        t.u = u;
        t.n = n;
        use(t, u);
        return add(t);
    }

    long two(int kind, int k, int u, int w) {
        if (kind < 3 || kind > 5 || !sign(u) || !sign(w) || kind != 5 && !below(k, 3)) {
            return -1;
        }
        if (terms.size() == 60) {
            return -2;
        }
        Asked t = new Asked();
        t.kind = kind;
        t.n = k;
        t.u = u;
        t.w = w;
        use(t, u);
        use(t, w);
        return add(t);
    }

    long term(int kind, int a, int b) {
        if (kind < 6 || kind > 14) {
            return -1;
        }
        boolean ofTwo = kind == 7 || kind == 8 || kind == 13;
        if (kind == 14 ? !below(a, 3) || !below(b, terms.size())
                : !below(a, terms.size()) || ofTwo && !below(b, terms.size())) {
            return -1;
        }
        if (terms.size() == 60) {
            return -2;
        }
        Asked t = new Asked();
        t.kind = kind;
        t.a = a;
        t.b = b;
        if (kind == 14) {
            Asked of = terms.get(b);
            t.cost = 1 + 16 * of.cost;
            t.deep = 1 + of.deep;
            t.free.addAll(of.free);
            t.free.remove(a);
        } else {
            Asked one = terms.get(a);
            t.cost = 1 + one.cost;
            t.deep = 1 + one.deep;
            t.free.addAll(one.free);
            if (ofTwo) {
                Asked two = terms.get(b);
                t.cost += two.cost;
                t.deep = Math.max(t.deep, 1 + two.deep);
                t.free.addAll(two.free);
            }
        }
        return t.cost > 100000 ? -5 : add(t);
    }

    long told(int term, int what) {
        if (!below(term, terms.size()) || !below(what, 4)) {
            return -1;
        }
        Asked t = terms.get(term);
        return what == 0 ? t.kind : what == 1 ? bits(t.free) : what == 2 ? t.cost : t.deep;
    }

    private boolean holds(int term, int state, int[] parts, boolean wide) {
        Asked t = terms.get(term);
        StringBuilder key = new StringBuilder();
        key.append(term).append(' ').append(state).append(wide ? " may" : " sure");
        for (int v : t.free) {
            key.append(' ').append(v).append('=').append(parts[v]);
        }
        String name = key.toString();
        Boolean is = known.get(name);
        if (is == null) {
            is = t.kind < 5 ? fact(t, worlds.get(state), parts, wide) : put(t, state, parts, wide);
            known.put(name, is);
        }
        return is;
    }

    private static int partFor(int u, int[] parts) {
        return u >= 10 ? u - 10 : parts[u];
    }

    private static boolean fact(Asked t, World w, int[] parts, boolean wide) {
        if (!w.read) {
            return wide;
        }
        int u = partFor(t.u, parts);
        int v = partFor(t.w, parts);
        int[] looks = w.parts.get(u);
        switch (t.kind) {
            case 0: return looks != null;
            case 1: return looks != null && looks[0] == t.n;
            case 2: return looks != null && looks[1] == t.n;
            case 3: return w.linked(t.n, u, v);
            default: return reaches(w, t.n, u, v);
        }
    }

    private static boolean reaches(World w, int kind, int from, int to) {
        Set<Integer> seen = new TreeSet<>();
        List<Integer> open = new ArrayList<>();
        open.add(from);
        while (!open.isEmpty()) {
            int at = open.remove(open.size() - 1);
            for (int p = 0; p < 16; p++) {
                if (w.linked(kind, at, p) && seen.add(p)) {
                    open.add(p);
                }
            }
        }
        return seen.contains(to);
    }

    private boolean put(Asked t, int state, int[] parts, boolean wide) {
        World w = worlds.get(state);
        switch (t.kind) {
            case 5: return partFor(t.u, parts) == partFor(t.w, parts);
            case 6: return !holds(t.a, state, parts, !wide);
            case 7: return holds(t.a, state, parts, wide) && holds(t.b, state, parts, wide);
            case 8: return holds(t.a, state, parts, wide) || holds(t.b, state, parts, wide);
            case 9: return times(t.a, selfAndBefore(state), parts, wide) > 0;
            case 10: return times(t.a, selfAndBefore(state), parts, wide) == selfAndBefore(state).size();
            case 11: return holds(t.a, state, parts, wide) && times(t.a, w.before, parts, !wide) == 0;
            case 12: return times(t.a, w.ahead(), parts, wide) > 0;
            case 13:
                if (holds(t.b, state, parts, wide)) {
                    return true;
                }
                if (!holds(t.a, state, parts, wide) || w.ahead().isEmpty()) {
                    return false;
                }
                return times(terms.indexOf(t), w.ahead(), parts, wide) == w.ahead().size();
            default:
                boolean some = false;
                for (int p = 0; p < 16; p++) {
                    int[] with = parts.clone();
                    with[t.a] = p;
                    some |= holds(t.b, state, with, wide);
                }
                return some;
        }
    }

    private int times(int term, Iterable<Integer> states, int[] parts, boolean wide) {
        int times = 0;
        for (int s : states) {
            times += holds(term, s, parts, wide) ? 1 : 0;
        }
        return times;
    }

    private Set<Integer> spanOf(int term, int[] parts, boolean wide) {
        Set<Integer> span = new TreeSet<>();
        for (int s = 0; s < worlds.size(); s++) {
            if (holds(term, s, parts, wide)) {
                span.add(s);
            }
        }
        return span;
    }

    long span(int term, int x, int y, int z, boolean wide) {
        if (!below(term, terms.size()) || !below(x, 16) || !below(y, 16) || !below(z, 16)) {
            return -1;
        }
        if (terms.get(term).cost > 600) {
            return -5;
        }
        return bits(spanOf(term, new int[] {x, y, z}, wide));
    }

    long lines(int states) {
        Set<Integer> set = new TreeSet<>();
        for (int i = 0; i < 32; i++) {
            if ((states >>> i & 1) != 0) {
                set.add(i);
            }
        }
        Set<Integer> lines = new TreeSet<>();
        for (int s : set) {
            if (s >= worlds.size()) {
                return -1;
            }
            Set<Integer> before = new TreeSet<>(worlds.get(s).before);
            before.retainAll(set);
            if (before.isEmpty()) {
                lines.add(s);
            }
        }
        return bits(lines);
    }

    private long refusal(int term) {
        if (!below(term, terms.size())) {
            return -1;
        }
        if (terms.get(term).free.contains(2)) {
            return -4;
        }
        return terms.get(term).cost > 600 ? -5 : 0;
    }

    private TreeMap<Integer, Set<Integer>> rowsOf(int term, boolean wide) {
        TreeMap<Integer, Set<Integer>> rows = new TreeMap<>();
        Set<Integer> free = terms.get(term).free;
        for (int x = 0; x < (free.contains(0) ? 16 : 1); x++) {
            for (int y = 0; y < (free.contains(1) ? 16 : 1); y++) {
                Set<Integer> span = spanOf(term, new int[] {x, y, 0}, wide);
                if (!span.isEmpty()) {
                    rows.put(16 * x + y, span);
                }
            }
        }
        return rows;
    }

    long rows(int term, boolean wide) {
        return refusal(term) != 0 ? refusal(term) : rowsOf(term, wide).size();
    }

    long row(int term, int i, boolean wide) {
        if (i < 0) {
            return -1;
        }
        if (refusal(term) != 0) {
            return refusal(term);
        }
        List<Integer> all = new ArrayList<>(rowsOf(term, wide).keySet());
        return i < all.size() ? all.get(i) : -3;
    }

    long apart(int term, int other) {
        long one = refusal(term);
        long two = refusal(other);
        for (long refusal : new long[] {-1, -4, -5}) {
            if (one == refusal || two == refusal) {
                return refusal;
            }
        }
        for (int s = 0; s < worlds.size(); s++) {
            for (int x = 0; x < 16; x++) {
                for (int y = 0; y < 16; y++) {
                    int[] parts = {x, y, 0};
                    if (holds(term, s, parts, false) != holds(other, s, parts, false)) {
                        return s;
                    }
                }
            }
        }
        return -2;
    }

    long keepTerm(int term) {
        if (refusal(term) != 0) {
            return refusal(term);
        }
        if (keptTerms.size() == 6) {
            return -2;
        }
        keptTerms.add(term);
        keptRows.add(rowsOf(term, false));
        return keptTerms.size() - 1;
    }

    long fresh(int kept, int what) {
        long answer = news(kept, what);
        if (answer >= 0) {
            keptRows.set(kept, rowsOf(keptTerms.get(kept), false));
        }
        return answer;
    }

    long news(int kept, int what) {
        if (!below(kept, keptTerms.size()) || !below(what, 4)) {
            return -1;
        }
        Map<Integer, Set<Integer>> was = keptRows.get(kept);
        Map<Integer, Set<Integer>> is = rowsOf(keptTerms.get(kept), false);
        int[] found = new int[4];
        for (int row = 0; row < 256; row++) {
            if (!was.containsKey(row) && is.containsKey(row)) {
                found[0]++;
            } else if (was.containsKey(row) && !is.containsKey(row)) {
                found[1]++;
            } else if (was.containsKey(row) && is.get(row).size() > was.get(row).size()) {
                found[2]++;
            } else if (was.containsKey(row) && !is.get(row).equals(was.get(row))) {
                found[3]++;
            }
        }
        return found[what];
    }

    long forget() {
        int went = keptTerms.size();
        keptTerms.clear();
        keptRows.clear();
        return went;
    }

    long count(int what) {
        return what == 0 ? worlds.size() : what == 1 ? terms.size() : what == 2 ? keptTerms.size() : -1;
    }

    private long hold(int d, int what, int term, long[] row) {
        shelves[d] = new Held();
        shelves[d].what = what;
        shelves[d].term = term;
        shelves[d].row = row;
        return 0;
    }

    long keep(int d, int what, int k) {
        if (!below(d, 8)) {
            return -1;
        }
        if (what == 0) {
            shelves[d] = null;
            return 0;
        }
        if (what == 1) {
            return below(k, terms.size()) ? hold(d, 1, k, null) : -1;
        }
        if (what == 3) {
            if (refusal(k) != 0) {
                return refusal(k);
            }
            long[] row = new long[worlds.size()];
            for (Set<Integer> span : rowsOf(k, false).values()) {
                for (int s : span) {
                    row[s]++;
                }
            }
            return hold(d, 3, 0, row);
        }
        if (what == 4 && below(k, worlds.size())) {
            long[] row = new long[16];
            for (int p = 0; p < 16; p++) {
                int[] looks = worlds.get(k).parts.get(p);
                row[p] = looks == null ? -1 : looks[1];
            }
            return hold(d, 4, 0, row);
        }
        return -1;
    }

    long make(int d, int what, int n) {
        if (!below(d, 8) || what < 3 || what > 4 || n > 60) {
            return -1;
        }
        return n < 0 ? -14 : hold(d, what, 0, new long[n]);
    }

    long element(int d, int i) {
        if (!below(d, 8)) {
            return ILLEGAL_ARGUMENT;
        }
        Held h = shelves[d];
        return h == null || h.row == null || !below(i, h.row.length) ? ILLEGAL_STATE : h.row[i];
    }

    long copy(int d, int i, int e, int j, int n) {
        if (!below(d, 8) || !below(e, 8)) {
            return -1;
        }
        Held from = shelves[d];
        Held to = shelves[e];
        if (from == null || to == null) {
            return -11;
        }
        if (from.row == null || to.row == null || from.what != to.what) {
            return -12;
        }
        if (n < 0 || i < 0 || j < 0 || (long) i + n > from.row.length || (long) j + n > to.row.length) {
            return -13;
        }
        long[] were = from.row.clone();
        for (int x = 0; x < n; x++) {
            to.row[j + x] = were[i + x];
        }
        return n;
    }

    private long heldTerm(int d) {
        if (!below(d, 8)) {
            return -1;
        }
        return shelves[d] == null ? -11 : shelves[d].what != 1 ? -12 : 0;
    }

    long weight(int d) {
        if (heldTerm(d) != 0) {
            return heldTerm(d);
        }
        Asked t = terms.get(shelves[d].term);
        int plain = t.cost + 10 * t.deep;
        if (t.kind < 6) {
            return plain;
        }
        if (t.kind == 14) {
            return 2 * (plain + 100);
        }
        return t.kind < 9 ? plain + 100 : plain + 1100;
    }

    long toss(int d) {
        if (heldTerm(d) != 0) {
            return heldTerm(d);
        }
        int kind = terms.get(shelves[d].term).kind;
        return kind < 6 ? -15 : kind;
    }
}
