import java.util.ArrayDeque;
import java.util.ArrayList;
import java.util.HashMap;
import java.util.List;
import java.util.Map;

/**
 * The document once more, written for plainness alone: trees of objects, sought by trying every way
 * in the order in which the document puts them. Tests hold the class against it.
 */
final class Model {
    static final int NONE = -1, BAD = -2, NO = -3, FULL = -4;
    private static final int[] LOW = {1, 48, 0, 0, 0, 0, 0, 0, 0, 0};
    private static final int[] HIGH = {3, 432, 24, 3, 99, 99, 99, 99, 99, 50};

    /** A SPAN of a writing, with all below it. */
    static final class Span {
        int kind, from, size, level, first, end;
        long cost;
        List<Span> parts = new ArrayList<>();

        String text() {
            if (kind == 0) {
                return first == end ? "-" : Integer.toString(end - first);
            }
            StringBuilder s = new StringBuilder().append(" [<{".charAt(kind));
            for (Span part : parts) {
                s.append(part.text());
            }
            return s.append(" ]>}".charAt(kind)).toString();
        }

        void leaves(List<Span> into) {
            if (kind == 0) {
                into.add(this);
            }
            for (Span part : parts) {
                part.leaves(into);
            }
        }

        void all(List<Span> into) {
            into.add(this);
            for (Span part : parts) {
                part.all(into);
            }
        }
    }

    /** A writing: each BAR's ticks and its SPAN. */
    static final class Plan {
        long cost;
        int ticks;
        Span span;
        Plan rest;
    }

    private record State(List<Integer> times, int[] set) {
    }

    List<Integer> times = new ArrayList<>();
    int[] set = {2, 216, 0, 2, 4, 10, 8, 6, 2, 6};
    private final ArrayDeque<State> states = new ArrayDeque<>();
    private String text = "";
    private final int[] refused = new int[3];
    private Plan best = null;

    // What the search under way is about.
    private List<Integer> sought;
    private int bend, way;
    private boolean exact;
    private final Map<Long, Span> known = new HashMap<>();
    private final Map<Long, Plan> plans = new HashMap<>();

    private int refuse(int why) {
        refused[-2 - why]++;
        return why;
    }

    private void keep() {
        states.addLast(new State(new ArrayList<>(times), set.clone()));
        if (states.size() > 8) {
            states.removeFirst();
        }
        best = null;
    }

    private int put(int t) {
        int k = 0;
        while (k < times.size() && times.get(k) <= t) {
            k++;
        }
        times.add(k, t);
        return k;
    }

    private boolean stroke(int k) {
        return 0 <= k && k < times.size();
    }

    int strikes(int t) {
        if (t < 0 || t > 1999) {
            return refuse(BAD);
        }
        if (times.size() == 8) {
            return refuse(FULL);
        }
        keep();
        return put(t);
    }

    int lifts(int k) {
        if (!stroke(k)) {
            return refuse(BAD);
        }
        keep();
        times.remove(k);
        return times.size();
    }

    int moves(int k, int t) {
        if (!stroke(k) || t < 0 || t > 1999) {
            return refuse(BAD);
        }
        keep();
        times.remove(k);
        return put(t);
    }

    int draws(int seed, int n) {
        if (seed < 0 || seed > 999999 || n < 0 || n > 8) {
            return refuse(BAD);
        }
        keep();
        times.clear();
        long x = seed;
        int sum = 0;
        for (int i = 0; i < n; i++) {
            x = (x * 1103515245L + 12345L) % (1L << 31);
            int t = (int) (x / 65536 % (set[0] * set[1]));
            put(t);
            sum += t;
        }
        return sum;
    }

    int shifts(int v) {
        if (v < -500 || v > 500) {
            return refuse(BAD);
        }
        keep();
        int otherwise = 0;
        for (int k = 0; k < times.size(); k++) {
            int was = times.get(k);
            int is = was + v < 0 ? 0 : was + v > 1999 ? 1999 : was + v;
            times.set(k, is);
            otherwise += is != was ? 1 : 0;
        }
        return otherwise;
    }

    int sets(int what, int v) {
        if (what < 0 || what > 9 || v < LOW[what] || v > HIGH[what]) {
            return refuse(BAD);
        }
        keep();
        int was = set[what];
        set[what] = v;
        return was;
    }

    int time(int k) {
        return stroke(k) ? times.get(k) : refuse(BAD);
    }

    // ---- the search

    private Plan search(List<Integer> strokes, int withBend, int withWay, boolean withExact) {
        sought = strokes;
        bend = withBend;
        way = withWay;
        exact = withExact;
        known.clear();
        plans.clear();
        return plan(0, 0, set[1], 0);
    }

    /** The best of BAR b and all behind it; null if there is none. */
    private Plan plan(int b, int begin, int ahead, int first) {
        long key = ((b * 2000L + begin) * 500L + ahead) * 10L + first;
        if (plans.containsKey(key)) {
            return plans.get(key);
        }
        Plan least = null;
        for (int ticks = set[1] - bend; ticks <= set[1] + bend; ticks += Math.max(1, bend)) {
            for (int end = first; end <= sought.size(); end++) {
                if (b == set[0] - 1 && end != sought.size()) {
                    continue;
                }
                Span span = span(begin, ticks, 0, 216, 0, first, end);
                Plan rest = b == set[0] - 1 ? null : plan(b + 1, begin + ticks, ticks, end);
                if (span == null || b < set[0] - 1 && rest == null) {
                    continue;
                }
                long cost = 216L * set[8] * Math.abs(ticks - ahead) + span.cost + (rest == null ? 0 : rest.cost);
                if (least == null || cost < least.cost) {
                    least = new Plan();
                    least.cost = cost;
                    least.ticks = ticks;
                    least.span = span;
                    least.rest = rest;
                }
            }
        }
        plans.put(key, least);
        return least;
    }

    private Span span(int begin, int ticks, int from, int size, int level, int first, int end) {
        long key = begin * 500L + ticks;
        key = ((key * 217 + from) * 217 + size) * 4 + level;
        key = key * 100 + first * 10 + end;
        if (known.containsKey(key)) {
            return known.get(key);
        }
        Span least = null;
        if (level > 0 || way < 0 || way == 0) {
            least = leaf(begin, ticks, from, size, level, first, end);
        }
        for (int kind = 1; kind <= 3 && level < set[3]; kind++) {
            if (level == 0 && way >= 0 && way != kind) {
                continue;
            }
            for (int m = first; m <= end; m++) {
                for (int n = m; n <= end; n++) {
                    if (kind < 3 && n != end) {
                        continue;
                    }
                    int[] dealt = kind < 3 ? new int[] {first, m, end} : new int[] {first, m, n, end};
                    Span divided = divided(begin, ticks, from, size, level, kind, dealt);
                    if (divided != null && (least == null || divided.cost < least.cost)) {
                        least = divided;
                    }
                }
            }
        }
        known.put(key, least);
        return least;
    }

    private Span leaf(int begin, int ticks, int from, int size, int level, int first, int end) {
        Span s = new Span();
        s.from = from;
        s.size = size;
        s.level = level;
        s.first = first;
        s.end = end;
        for (int k = first; k < end; k++) {
            long error = Math.abs(216L * (sought.get(k) - begin) - (long) ticks * from);
            if (exact && error != 0) {
                return null;
            }
            s.cost += error;
            if (k > first && sought.get(k - 1) < sought.get(k) - set[9]) {
                s.cost += 216L * set[7];
            }
        }
        return s;
    }

    private static final int[][] SIXTHS = {{}, {0, 3, 6}, {0, 4, 6}, {0, 2, 4, 6}};

    private Span divided(int begin, int ticks, int from, int size, int level, int kind, int[] dealt) {
        Span s = new Span();
        s.kind = kind;
        s.from = from;
        s.size = size;
        s.level = level;
        s.first = dealt[0];
        s.end = dealt[dealt.length - 1];
        s.cost = 216L * set[3 + kind];
        for (int p = 0; p + 1 < dealt.length; p++) {
            int a = size * SIXTHS[kind][p] / 6;
            int z = size * SIXTHS[kind][p + 1] / 6 - a;
            Span part = span(begin, ticks, from + a, z, level + 1, dealt[p], dealt[p + 1]);
            if (part == null) {
                return null;
            }
            s.parts.add(part);
            s.cost += part.cost;
        }
        return s;
    }

    private Plan best() {
        if (best == null) {
            best = search(times, set[2], -1, false);
        }
        return best;
    }

    // ---- the best writing

    int cost() {
        return (int) best().cost;
    }

    private Plan barPlan(int b) {
        Plan p = best();
        for (int i = 0; i < b; i++) {
            p = p.rest;
        }
        return p;
    }

    private int begin(int b) {
        int t = 0;
        for (int i = 0; i < b; i++) {
            t += barPlan(i).ticks;
        }
        return t;
    }

    int bar(int b, int what) {
        if (b < 0 || b >= set[0] || what < 0 || what > 8) {
            return refuse(BAD);
        }
        Plan p = barPlan(b);
        List<Span> leaves = new ArrayList<>();
        List<Span> all = new ArrayList<>();
        p.span.leaves(leaves);
        p.span.all(all);
        int sum = 0;
        switch (what) {
            case 0: return p.ticks;
            case 1: return begin(b);
            case 2: return p.span.first;
            case 3: return p.span.end - p.span.first;
            case 4: return all.size() - leaves.size();
            case 5: return leaves.size();
            case 6:
                for (Span s : all) {
                    sum = Math.max(sum, s.level);
                }
                return sum;
            default:
                for (int k = p.span.first; k < p.span.end; k++) {
                    sum += written(k, what == 7 ? 2 : 4);
                }
                return sum;
        }
    }

    int written(int k, int what) {
        if (!stroke(k) || what < 0 || what > 5) {
            return refuse(BAD);
        }
        for (int b = 0; b < set[0]; b++) {
            List<Span> leaves = new ArrayList<>();
            barPlan(b).span.leaves(leaves);
            for (Span leaf : leaves) {
                if (leaf.first <= k && k < leaf.end) {
                    switch (what) {
                        case 0: return b;
                        case 1: return leaf.from;
                        case 2: return Math.abs(216 * (times.get(k) - begin(b)) - barPlan(b).ticks * leaf.from);
                        case 3: return leaf.end - leaf.first;
                        case 4: return k > leaf.first && times.get(k) - times.get(k - 1) > set[9] ? 1 : 0;
                        default: return leaf.level;
                    }
                }
            }
        }
        throw new IllegalStateException("a stroke that is not dealt");
    }

    int shown(int b, int i) {
        if (b < 0 || b >= set[0] || i < 0) {
            return refuse(BAD);
        }
        String shown = barPlan(b).span.text();
        return i < shown.length() ? shown.charAt(i) : NONE;
    }

    int count(int what) {
        if (what < 0 || what > 6) {
            return refuse(BAD);
        }
        int sum = 0;
        int ahead = set[1];
        for (int b = 0; b < set[0]; b++) {
            Plan p = barPlan(b);
            List<Span> all = new ArrayList<>();
            p.span.all(all);
            for (Span s : all) {
                sum += what < 3 && s.kind == what + 1 ? 1 : 0;
                sum += what == 6 && s.kind == 0 && s.end > s.first ? 1 : 0;
            }
            sum += what == 5 ? Math.abs(p.ticks - ahead) : 0;
            ahead = p.ticks;
        }
        for (int k = 0; k < times.size(); k++) {
            sum += what == 3 ? written(k, 4) : what == 4 && written(k, 2) == 0 ? 1 : 0;
        }
        return sum;
    }

    // ---- others

    int bent(int v) {
        return v < 0 || v > 24 ? refuse(BAD) : (int) search(times, v, -1, false).cost;
    }

    int forced(int forcedWay) {
        if (forcedWay < 0 || forcedWay > 3) {
            return refuse(BAD);
        }
        if (forcedWay != 0 && set[3] == 0) {
            return refuse(NO);
        }
        return (int) search(times, set[2], forcedWay, false).cost;
    }

    int without(int k) {
        if (!stroke(k)) {
            return refuse(BAD);
        }
        List<Integer> left = new ArrayList<>(times);
        left.remove(k);
        return (int) search(left, set[2], -1, false).cost;
    }

    int exact() {
        Plan p = search(times, set[2], -1, true);
        return p == null ? NONE : (int) p.cost;
    }

    // ---- texts

    int type(int c) {
        if (c < 0 || c > 127) {
            return refuse(BAD);
        }
        if (text.length() == 60) {
            return refuse(FULL);
        }
        text += (char) c;
        return text.length();
    }

    int clear() {
        int had = text.length();
        text = "";
        return had;
    }

    private int at;
    private List<int[]> read;

    /** A recursive reading: -1, or the FAULT. */
    private int readSpan(int bar, int from, int size, int level) {
        skip();
        if (at == text.length()) {
            return at;
        }
        char c = text.charAt(at);
        if (c == '-') {
            at++;
            return -1;
        }
        if ('1' <= c && c <= '8' && read.size() + (c - '0') <= 8) {
            for (int n = 0; n < c - '0'; n++) {
                read.add(new int[] {bar, from});
            }
            at++;
            return -1;
        }
        int kind = " [<{".indexOf(c);
        if (kind < 1 || level == 3) {
            return at;
        }
        at++;
        for (int p = 0; p + 1 < SIXTHS[kind].length; p++) {
            int a = size * SIXTHS[kind][p] / 6;
            int z = size * SIXTHS[kind][p + 1] / 6 - a;
            int fault = readSpan(bar, from + a, z, level + 1);
            if (fault >= 0) {
                return fault;
            }
        }
        skip();
        if (at == text.length() || text.charAt(at) != " ]>}".charAt(kind)) {
            return at;
        }
        at++;
        return -1;
    }

    private void skip() {
        while (at < text.length() && text.charAt(at) == ' ') {
            at++;
        }
    }

    int plays() {
        at = 0;
        read = new ArrayList<>();
        int bars = 0;
        do {
            int fault = bars == 3 ? at : readSpan(bars, 0, 216, 0);
            if (fault >= 0) {
                return -10 - fault;
            }
            bars++;
            skip();
        } while (at < text.length());
        keep();
        set[0] = bars;
        times.clear();
        for (int[] stroke : read) {
            times.add(stroke[0] * set[1] + set[1] * stroke[1] / 216);
        }
        return times.size();
    }

    int back() {
        if (states.isEmpty()) {
            return refuse(NO);
        }
        State state = states.removeLast();
        times = state.times();
        set = state.set();
        best = null;
        return states.size();
    }

    int told(int what) {
        if (what < 0 || what > 15) {
            return refuse(BAD);
        }
        return what < 3 ? refused[what]
                : what == 3 ? times.size()
                : what < 14 ? set[what - 4]
                : what == 14 ? text.length() : states.size();
    }

    long digest() {
        List<Integer> values = new ArrayList<>();
        for (int what = 0; what < 16; what++) {
            values.add(told(what));
        }
        values.addAll(times);
        values.add(cost());
        for (int b = 0; b < set[0]; b++) {
            for (int what = 0; what < 9; what++) {
                values.add(bar(b, what));
            }
        }
        for (int k = 0; k < times.size(); k++) {
            for (int what = 0; what < 6; what++) {
                values.add(written(k, what));
            }
        }
        long h = 1772;
        for (int v : values) {
            h = 31 * h + v;
        }
        return h;
    }
}
