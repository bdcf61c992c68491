import java.util.ArrayList;
import java.util.Arrays;
import java.util.HashMap;
import java.util.List;
import java.util.Map;

/**
 * The document once more, as slowly and as literally as can be, to be held against PloughDepot by
 * RandomRunsTest: real NaNs and infinities, the float rest of Java, recursion over all PAIRS, whole
 * copies of the state, nothing kept between calls.
 */
final class DepotModel {
    static final int NONE = -1, BAD = -2, FULL = -3, NULL = -4, INDEX = -5, CAST = -6, SIZE = -7, NO = -8, DEEP = -9;

    static final class Street {
        int a, b, length, sides = 1, drift, cleared;
        boolean oneWay, shut, guessed;

        Street twin() {
            Street s = new Street();
            s.a = a;
            s.b = b;
            s.length = length;
            s.sides = sides;
            s.drift = drift;
            s.cleared = cleared;
            s.oneWay = oneWay;
            s.shut = shut;
            s.guessed = guessed;
            return s;
        }

        boolean leadsFrom(int c) {
            return !shut && (a == c || b == c && !oneWay);
        }

        int other(int c) {
            return a == c ? b : a;
        }

        boolean must() {
            return !shut && sides > 0;
        }
    }

    static final class Gauge {
        int crossing;
        boolean shorts;
        float[] floats;
        short[] tenths;

        Gauge twin() {
            Gauge g = new Gauge();
            g.crossing = crossing;
            g.shorts = shorts;
            g.floats = floats == null ? null : floats.clone();
            g.tenths = tenths == null ? null : tenths.clone();
            return g;
        }

        int hours() {
            return shorts ? tenths == null ? NONE : tenths.length : floats == null ? NONE : floats.length;
        }
    }

    static final class Machine {
        int kind, minutes, p, q;
        boolean out;
        int first, drives, driven, spent, found, again, over;

        Machine twin() {
            Machine m = new Machine();
            m.kind = kind;
            m.minutes = minutes;
            m.p = p;
            m.q = q;
            m.out = out;
            m.first = first;
            m.drives = drives;
            m.driven = driven;
            m.spent = spent;
            m.found = found;
            m.again = again;
            m.over = over;
            return m;
        }

        void noPart() {
            first = drives = driven = spent = found = again = over = 0;
        }
    }

    static final class State {
        int crossings;
        List<Street> streets = new ArrayList<>();
        List<Gauge> gauges = new ArrayList<>();
        List<Machine> ploughs = new ArrayList<>();
        List<int[]> drives = new ArrayList<>();
        Map<Integer, Integer> partners = new HashMap<>();
        int joinings, exchanges, pairs, made;

        State twin() {
            State t = new State();
            t.crossings = crossings;
            for (Street s : streets) {
                t.streets.add(s.twin());
            }
            for (Gauge g : gauges) {
                t.gauges.add(g.twin());
            }
            for (Machine m : ploughs) {
                t.ploughs.add(m.twin());
            }
            t.drives = new ArrayList<>(drives);
            t.partners = new HashMap<>(partners);
            t.joinings = joinings;
            t.exchanges = exchanges;
            t.pairs = pairs;
            t.made = made;
            return t;
        }
    }

    State st = new State();
    State old = null;
    int status = 0, trace = 0, looks = 0;
    final int[] findings = new int[5];
    String text = "";

    private int ok(int v) {
        status = 0;
        return v;
    }

    private void finding(int why) {
        switch (why) {
            case NULL: findings[0]++; break;
            case INDEX: findings[1]++; break;
            case CAST: findings[2]++; break;
            case SIZE: findings[3]++; break;
            case DEEP: findings[4]++; break;
            default: break;
        }
    }

    private int no(int why) {
        finding(why);
        status = why;
        return why;
    }

    private void change() {
        old = st.twin();
    }

    private boolean isCrossing(int c) {
        return c >= 0 && c < st.crossings;
    }

    private boolean isStreet(int s) {
        return s >= 0 && s < st.streets.size();
    }

    private boolean isGauge(int g) {
        return g >= 0 && g < st.gauges.size();
    }

    private boolean isPlough(int p) {
        return p >= 0 && p < st.ploughs.size();
    }

    int crossings(int n) {
        if (n < 1 || n > 20) return no(BAD);
        if (st.crossings + n > 60) return no(FULL);
        change();
        return ok(st.crossings += n);
    }

    int street(int a, int b, int length, boolean oneWay) {
        if (!isCrossing(a) || !isCrossing(b) || a == b || length < 1 || length > 10000) return no(BAD);
        if (st.streets.size() == 150) return no(FULL);
        change();
        Street s = new Street();
        s.a = a;
        s.b = b;
        s.length = length;
        s.oneWay = oneWay;
        st.streets.add(s);
        return ok(st.streets.size() - 1);
    }

    int oneWay(int street, boolean is) {
        if (!isStreet(street)) return no(BAD);
        change();
        Street s = st.streets.get(street);
        boolean was = s.oneWay;
        s.oneWay = is;
        return ok(was ? 1 : 0);
    }

    int shut(int street, boolean is) {
        if (!isStreet(street)) return no(BAD);
        change();
        Street s = st.streets.get(street);
        boolean was = s.shut;
        s.shut = is;
        return ok(was ? 1 : 0);
    }

    int sides(int street, int n) {
        if (!isStreet(street) || n < 0 || n > 2) return no(BAD);
        change();
        Street s = st.streets.get(street);
        int was = s.sides;
        s.sides = n;
        s.cleared = 0;
        return ok(was);
    }

    private int toldOf(Street s, int what) {
        int[] all = {s.drift, s.guessed ? 1 : 0, s.cleared, s.sides, s.shut ? 1 : 0, s.oneWay ? 1 : 0, s.length, s.a, s.b};
        return all[what];
    }

    int told(int street, int what) {
        if (!isStreet(street) || what < 0 || what > 8) return no(BAD);
        return ok(toldOf(st.streets.get(street), what));
    }

    private static final long INF = Long.MAX_VALUE / 4;

    /** Bellman and Ford: least LENGTH from each CROSSING to the goal. */
    private long[] toGoal(int goal) {
        long[] d = new long[st.crossings];
        Arrays.fill(d, INF);
        d[goal] = 0;
        for (int k = 0; k < st.crossings; k++) {
            for (Street s : st.streets) {
                if (s.leadsFrom(s.a)) d[s.a] = Math.min(d[s.a], d[s.b] + s.length);
                if (s.leadsFrom(s.b)) d[s.b] = Math.min(d[s.b], d[s.a] + s.length);
            }
        }
        return d;
    }

    /** THE WAY as its STREETS; null: there is none. */
    private List<Integer> theWay(int from, int to) {
        long[] d = toGoal(to);
        if (d[from] >= INF) return null;
        List<Integer> way = new ArrayList<>();
        int c = from;
        while (c != to) {
            int next = -1, by = -1;
            for (int s = 0; s < st.streets.size(); s++) {
                Street t = st.streets.get(s);
                if (t.leadsFrom(c) && t.length + d[t.other(c)] == d[c] && (by < 0 || t.other(c) < next)) {
                    next = t.other(c);
                    by = s;
                }
            }
            way.add(by);
            c = next;
        }
        return way;
    }

    private long lengthOf(List<Integer> way) {
        if (way == null) return INF;
        long sum = 0;
        for (int s : way) sum += st.streets.get(s).length;
        return sum;
    }

    int way(int a, int b) {
        if (!isCrossing(a) || !isCrossing(b)) return no(BAD);
        List<Integer> w = theWay(a, b);
        return w == null ? no(NO) : ok((int) lengthOf(w));
    }

    int wayAt(int a, int b, int i) {
        if (!isCrossing(a) || !isCrossing(b)) return no(BAD);
        List<Integer> w = theWay(a, b);
        if (w == null) return no(NO);
        return ok(i < 0 || i >= w.size() ? NONE : w.get(i));
    }

    int gauge(int crossing, boolean shorts) {
        if (!isCrossing(crossing)) return no(BAD);
        if (st.gauges.size() == 20) return no(FULL);
        change();
        Gauge g = new Gauge();
        g.crossing = crossing;
        g.shorts = shorts;
        st.gauges.add(g);
        return ok(st.gauges.size() - 1);
    }

    int row(int gauge, int n) {
        if (!isGauge(gauge) || n > 200) return no(BAD);
        if (n < 0) return no(SIZE);
        change();
        Gauge g = st.gauges.get(gauge);
        if (g.shorts) g.tenths = new short[n];
        else g.floats = new float[n];
        return ok(1);
    }

    int lose(int gauge) {
        if (!isGauge(gauge)) return no(BAD);
        change();
        Gauge g = st.gauges.get(gauge);
        boolean was = g.hours() == NONE;
        g.floats = null;
        g.tenths = null;
        return ok(was ? 0 : 1);
    }

    private int whyNot(Gauge g, int hour) {
        if (g.hours() == NONE) return NULL;
        return hour < 0 || hour >= g.hours() ? INDEX : 0;
    }

    int reading(int gauge, int hour, int v) {
        if (!isGauge(gauge)) return no(BAD);
        Gauge g = st.gauges.get(gauge);
        if (whyNot(g, hour) != 0) return no(whyNot(g, hour));
        change();
        if (g.shorts) g.tenths[hour] = (short) v;
        else g.floats[hour] = ((float) v) / 8;
        return ok(1);
    }

    int none(int gauge, int hour, int which) {
        if (!isGauge(gauge) || which < 0 || which > 1) return no(BAD);
        Gauge g = st.gauges.get(gauge);
        if (whyNot(g, hour) != 0) return no(whyNot(g, hour));
        change();
        if (g.shorts) g.tenths[hour] = which == 0 ? (short) -32768 : (short) 32767;
        else g.floats[hour] = which == 0 ? Float.NaN : Float.POSITIVE_INFINITY;
        return ok(1);
    }

    /** x of SNOW; null: it tells nothing. */
    private Float x(Gauge g, int hour) {
        float x;
        if (g.shorts) {
            if (g.tenths[hour] == -32768 || g.tenths[hour] == 32767) return null;
            x = (float) g.tenths[hour] / (float) 10;
        } else {
            if (Float.isNaN(g.floats[hour]) || Float.isInfinite(g.floats[hour])) return null;
            x = g.floats[hour];
        }
        return x < 0 ? 0f : x;
    }

    private int readOf(Gauge g, int hour) {
        Float x = x(g, hour);
        return x == null ? NONE : Math.min(100000, (int) (x * 10));
    }

    int read(int gauge, int hour) {
        if (!isGauge(gauge)) return no(BAD);
        Gauge g = st.gauges.get(gauge);
        if (whyNot(g, hour) != 0) return no(whyNot(g, hour));
        return ok(readOf(g, hour));
    }

    private int whyNoCopy(Gauge f, int i, Gauge t, int j, int n) {
        if (f.hours() == NONE || t.hours() == NONE) return NULL;
        if (i < 0 || j < 0 || n < 0 || (long) i + n > f.hours() || (long) j + n > t.hours()) return INDEX;
        return 0;
    }

    private void doCopy(Gauge f, int i, Gauge t, int j, int n) {
        Gauge was = f.twin();
        for (int k = 0; k < n; k++) {
            if (f.shorts) t.tenths[j + k] = was.tenths[i + k];
            else t.floats[j + k] = was.floats[i + k];
        }
    }

    int copy(int from, int i, int to, int j, int n) {
        if (!isGauge(from) || !isGauge(to) || st.gauges.get(from).shorts != st.gauges.get(to).shorts) return no(BAD);
        int why = whyNoCopy(st.gauges.get(from), i, st.gauges.get(to), j, n);
        if (why != 0) return no(why);
        change();
        doCopy(st.gauges.get(from), i, st.gauges.get(to), j, n);
        return ok(1);
    }

    int copies(int i, int j, int n) {
        State was = st.twin();
        int many = 0;
        int why = 0;
        for (Gauge g : st.gauges) {
            why = whyNoCopy(g, i, g, j, n);
            if (why != 0) break;
            doCopy(g, i, g, j, n);
            many++;
        }
        if (many > 0) old = was;
        finding(why);
        status = why;
        return many;
    }

    int snow(int hour) {
        if (hour < 0 || hour > 199) return no(BAD);
        change();
        Float[] told = new Float[st.gauges.size()];
        for (int g = 0; g < told.length; g++) {
            int why = whyNot(st.gauges.get(g), hour);
            finding(why);
            told[g] = why == 0 ? x(st.gauges.get(g), hour) : null;
        }
        int sure = 0;
        for (Street street : st.streets) {
            float s = 0, w = 0;
            for (int g = 0; g < told.length; g++) {
                if (told[g] == null) continue;
                int at = st.gauges.get(g).crossing;
                int k = 0;
                if (at == street.a || at == street.b) {
                    k = 2;
                } else {
                    for (Street o : st.streets) {
                        if (!o.shut && (o.a == at && (o.b == street.a || o.b == street.b)
                                || o.b == at && (o.a == street.a || o.a == street.b))) k = 1;
                    }
                }
                if (k > 0) {
                    s = s + told[g] * k;
                    w = w + k;
                }
            }
            if (w > 0) {
                street.drift = Math.min(100000, street.drift + Math.min(100000, (int) ((s / w) * 10)));
                street.guessed = false;
                sure++;
            } else {
                street.guessed = true;
            }
        }
        return ok(sure);
    }

    int melt(int t, int s) {
        if (t < 0 || s < 0) return no(BAD);
        if (s == 0) return no(NO);
        float ft = ((float) t) / 8;
        float fs = ((float) s) / 8;
        int many = Math.min(100000, (int) ((ft - ft % fs) / fs));
        change();
        for (Street street : st.streets) {
            for (int k = 0; k < many && street.drift > 0; k++) street.drift = Math.max(0, street.drift - 3);
        }
        return ok(many);
    }

    int plough(int kind, int minutes) {
        if (kind < 0 || kind > 3 || minutes < 0 || minutes > 10000) return no(BAD);
        if (st.ploughs.size() == 12) return no(FULL);
        change();
        Machine m = new Machine();
        m.kind = kind;
        m.minutes = minutes;
        st.ploughs.add(m);
        return ok(st.ploughs.size() - 1);
    }

    int pair(int p, int q, int minutes) {
        if (!isPlough(p) || !isPlough(q) || p == q || minutes < 0 || minutes > 10000) return no(BAD);
        if (st.ploughs.size() == 12) return no(FULL);
        for (int which : new int[] {p, q}) {
            if (st.ploughs.get(which).out) return no(NULL);
            if (st.ploughs.get(which).kind == 4) return no(CAST);
        }
        change();
        for (int which : new int[] {p, q}) {
            st.ploughs.get(which).out = true;
            st.ploughs.get(which).noPart();
        }
        Machine m = new Machine();
        m.kind = 4;
        m.minutes = minutes;
        m.p = p;
        m.q = q;
        st.ploughs.add(m);
        return ok(st.ploughs.size() - 1);
    }

    int out(int plough) {
        if (!isPlough(plough)) return no(BAD);
        change();
        Machine m = st.ploughs.get(plough);
        boolean was = m.out;
        m.out = true;
        m.noPart();
        return ok(was ? 0 : 1);
    }

    private int speed(Machine m) {
        if (m.kind == 4) return Math.min(speed(st.ploughs.get(m.p)), speed(st.ploughs.get(m.q)));
        return new int[] {50, 30, 45, 20}[m.kind];
    }

    private int reach(Machine m) {
        if (m.kind == 4) return reach(st.ploughs.get(m.p)) + reach(st.ploughs.get(m.q));
        return new int[] {200, 600, 200, 400}[m.kind];
    }

    private int takes(Machine m, int length) {
        if (m.kind == 4) {
            trace += 5;
            int one = takes(st.ploughs.get(m.p), length);
            int two = takes(st.ploughs.get(m.q), length);
            return Math.max(one, two);
        }
        trace += new int[] {1, 1, 21, 11}[m.kind];
        int up = length / speed(m) + (length % speed(m) == 0 ? 0 : 1);
        return up + new int[] {0, 0, 2, 1}[m.kind];
    }

    /** 0: TOO DEEP. */
    private int passes(Machine m, int drift) {
        trace += new int[] {100, 1000, 100, 100, 10000}[m.kind];
        int r = reach(m);
        if (drift <= r) return 1;
        if (m.kind == 1) return drift <= 3 * r ? 3 : 0;
        return drift <= 2 * r ? 2 : 0;
    }

    int asks(int plough, int street, int what) {
        if (!isPlough(plough) || !isStreet(street) || what < 0 || what > 3) return no(BAD);
        Machine m = st.ploughs.get(plough);
        if (m.out) return no(NULL);
        if (what == 0) return ok(speed(m));
        if (what == 1) return ok(reach(m));
        if (what == 2) return ok(takes(m, st.streets.get(street).length));
        int p = passes(m, st.streets.get(street).drift);
        return p == 0 ? no(DEEP) : ok(p);
    }

    int salt(int plough, int street) {
        if (!isPlough(plough) || !isStreet(street)) return no(BAD);
        if (st.ploughs.get(plough).out) return no(NULL);
        if (st.ploughs.get(plough).kind != 2) return no(CAST);
        change();
        Street s = st.streets.get(street);
        s.drift = s.drift < 50 ? 0 : s.drift - 50;
        return ok(s.drift);
    }

    private List<Integer> oddBy(int[] times) {
        List<Integer> odd = new ArrayList<>();
        for (int c = 0; c < st.crossings; c++) {
            int sum = 0;
            for (int s = 0; s < times.length; s++) {
                if (st.streets.get(s).a == c || st.streets.get(s).b == c) sum += times[s];
            }
            if (sum % 2 != 0) odd.add(c);
        }
        return odd;
    }

    private int[] timesDue() {
        int[] times = new int[st.streets.size()];
        for (int s = 0; s < times.length; s++) times[s] = st.streets.get(s).must() ? st.streets.get(s).sides : 0;
        return times;
    }

    private boolean someOneWay() {
        for (Street s : st.streets) if (!s.shut && s.oneWay) return true;
        return false;
    }

    int odd(int i) {
        List<Integer> odd = oddBy(timesDue());
        return ok(i < 0 || i >= odd.size() ? NONE : odd.get(i));
    }

    private long leastOf(List<Integer> set, long[][] d, Map<List<Integer>, Long> seen) {
        if (set.isEmpty()) return 0;
        if (set.size() % 2 != 0) return INF;
        Long known = seen.get(set);
        if (known != null) return known;
        long best = INF;
        for (int k = 1; k < set.size(); k++) {
            List<Integer> rest = new ArrayList<>(set);
            rest.remove(k);
            rest.remove(0);
            best = Math.min(best, Math.min(INF, d[set.get(0)][set.get(k)] + leastOf(rest, d, seen)));
        }
        seen.put(set, best);
        return best;
    }

    private long[][] allLengths() {
        long[][] d = new long[st.crossings][st.crossings];
        for (int to = 0; to < st.crossings; to++) {
            long[] row = toGoal(to);
            for (int from = 0; from < st.crossings; from++) d[from][to] = Math.min(INF, row[from]);
        }
        return d;
    }

    int least(int bits) {
        List<Integer> odd = oddBy(timesDue());
        if (odd.size() > 14 || someOneWay() || bits < 0 || bits >> odd.size() != 0) return no(BAD);
        List<Integer> set = new ArrayList<>();
        for (int i = 0; i < odd.size(); i++) if ((bits >> i & 1) == 1) set.add(odd.get(i));
        long l = leastOf(set, allLengths(), new HashMap<>());
        return l >= INF ? no(NO) : ok((int) l);
    }

    private boolean[] reached(int[] times, int from) {
        boolean[] seen = new boolean[st.crossings];
        if (from < seen.length) seen[from] = true;
        for (int k = 0; k < st.crossings; k++) {
            for (int s = 0; s < times.length; s++) {
                Street t = st.streets.get(s);
                if (times[s] > 0 && (seen[t.a] || seen[t.b])) seen[t.a] = seen[t.b] = true;
            }
        }
        return seen;
    }

    private boolean allReached(int[] times, int from) {
        boolean[] seen = reached(times, from);
        for (int s = 0; s < times.length; s++) if (times[s] > 0 && !seen[st.streets.get(s).a]) return false;
        return true;
    }

    private List<int[]> made;
    private int madeJoinings, madeExchanges;
    private List<int[]> madePairs;

    int round() {
        made = new ArrayList<>();
        madePairs = new ArrayList<>();
        madeJoinings = madeExchanges = 0;
        boolean byB = someOneWay();
        int why = byB ? roundB() : roundA();
        if (why != 0) return no(why);
        change();
        st.drives = made;
        st.joinings = madeJoinings;
        st.exchanges = madeExchanges;
        st.pairs = madePairs.size();
        st.made = byB ? 2 : 1;
        st.partners = new HashMap<>();
        for (int[] p : madePairs) {
            st.partners.put(p[0], p[1]);
            st.partners.put(p[1], p[0]);
        }
        for (Machine m : st.ploughs) m.noPart();
        return ok(made.size());
    }

    private int roundA() {
        int[] times = timesDue();
        long[][] d = allLengths();
        while (!allReached(times, 0)) {
            boolean[] seen = reached(times, 0);
            long best = INF;
            int from = -1, to = -1;
            for (int c = 0; c < st.crossings; c++) {
                if (!seen[c]) continue;
                for (int s = 0; s < times.length; s++) {
                    Street t = st.streets.get(s);
                    if (times[s] == 0 || seen[t.a]) continue;
                    for (int e : new int[] {t.a, t.b}) {
                        if (d[c][e] < best || d[c][e] == best && best < INF && c == from && e < to) {
                            best = d[c][e];
                            from = c;
                            to = e;
                        }
                    }
                }
            }
            if (best >= INF) return NO;
            for (int s : theWay(from, to)) times[s] += 2;
            madeJoinings++;
        }
        List<Integer> odd = oddBy(times);
        if (odd.size() <= 14) pairExactly(odd, d);
        else pairRoughly(odd, d);
        for (int[] p : madePairs) for (int s : theWay(p[0], p[1])) times[s]++;
        int sum = 0;
        for (int t : times) sum += t;
        if (sum > 2000) return FULL;
        int[] left = times.clone();
        int c = 0;
        for (int k = 0; k < sum; k++) {
            for (int s = 0; s < left.length; s++) {
                Street t = st.streets.get(s);
                if (left[s] == 0 || t.a != c && t.b != c) continue;
                left[s]--;
                if (allReached(left, t.other(c))) {
                    int driven = times[s] - left[s];
                    made.add(new int[] {s, c, t.other(c), driven <= t.sides ? 1 : 0});
                    c = t.other(c);
                    break;
                }
                left[s]++;
            }
        }
        return 0;
    }

    private void pairExactly(List<Integer> odd, long[][] d) {
        Map<List<Integer>, Long> seen = new HashMap<>();
        List<Integer> set = odd;
        while (!set.isEmpty()) {
            long best = leastOf(set, d, seen);
            for (int k = 1; k < set.size(); k++) {
                List<Integer> rest = new ArrayList<>(set);
                rest.remove(k);
                rest.remove(0);
                if (d[set.get(0)][set.get(k)] + leastOf(rest, d, seen) == best) {
                    madePairs.add(new int[] {set.get(0), set.get(k)});
                    set = rest;
                    break;
                }
            }
        }
    }

    private static int[] ordered(int c, int d) {
        return new int[] {Math.min(c, d), Math.max(c, d)};
    }

    private void pairRoughly(List<Integer> odd, long[][] d) {
        for (int i = 0; i < odd.size(); i += 2) madePairs.add(new int[] {odd.get(i), odd.get(i + 1)});
        boolean again = true;
        while (again && madeExchanges < 1000) {
            again = false;
            for (int i = 0; i < madePairs.size() && !again; i++) {
                for (int j = i + 1; j < madePairs.size() && !again; j++) {
                    int p = madePairs.get(i)[0], q = madePairs.get(i)[1];
                    int r = madePairs.get(j)[0], s = madePairs.get(j)[1];
                    long is = d[p][q] + d[r][s];
                    if (d[p][r] + d[q][s] < is) {
                        madePairs.set(i, ordered(p, r));
                        madePairs.set(j, ordered(q, s));
                        again = true;
                    } else if (d[p][s] + d[q][r] < is) {
                        madePairs.set(i, ordered(p, s));
                        madePairs.set(j, ordered(q, r));
                        again = true;
                    }
                }
            }
            if (again) madeExchanges++;
        }
    }

    private int driveB(int s, int from, int clears) {
        if (made.size() == 2000) return FULL;
        made.add(new int[] {s, from, st.streets.get(s).other(from), clears});
        return 0;
    }

    private int roundB() {
        int[] due = timesDue();
        long[][] lengths = allLengths();
        int c = 0;
        while (true) {
            boolean some = false;
            long best = INF;
            int street = -1, start = -1;
            for (int s = 0; s < due.length; s++) {
                if (due[s] == 0) continue;
                some = true;
                Street t = st.streets.get(s);
                for (int e : t.oneWay ? new int[] {t.a} : new int[] {t.a, t.b}) {
                    long l = lengths[c][e];
                    if (l < best) {
                        best = l;
                        street = s;
                        start = e;
                    }
                }
            }
            if (some && street < 0) return NO;
            List<Integer> w = theWay(c, some ? start : 0);
            if (w == null) return NO;
            for (int s : w) {
                if (driveB(s, c, 0) != 0) return FULL;
                c = st.streets.get(s).other(c);
            }
            if (!some) return 0;
            if (driveB(street, c, 1) != 0) return FULL;
            c = st.streets.get(street).other(c);
            due[street]--;
        }
    }

    int at(int i, int what) {
        if (what < 0 || what > 3) return no(BAD);
        return ok(i < 0 || i >= st.drives.size() ? NONE : st.drives.get(i)[what]);
    }

    int length(int what) {
        int along = 0, clear = 0;
        for (int[] d : st.drives) {
            along += st.streets.get(d[0]).length;
            clear += d[3];
        }
        switch (what) {
            case 0: return ok(st.drives.size());
            case 1: return ok(along);
            case 2: return ok(clear);
            case 3: return ok(st.joinings);
            case 4: return ok(st.exchanges);
            case 5: return ok(st.pairs);
            case 6: return ok(st.made);
            default: return no(BAD);
        }
    }

    int partner(int crossing) {
        if (!isCrossing(crossing)) return no(BAD);
        return ok(st.partners.getOrDefault(crossing, NONE));
    }

    int split() {
        State next = st.twin();
        int i = 0;
        for (Machine m : next.ploughs) {
            if (m.out) continue;
            m.noPart();
            m.first = i;
            while (i < st.drives.size()) {
                int[] d = st.drives.get(i);
                Street s = st.streets.get(d[0]);
                int minutes;
                if (d[3] == 1) {
                    int p = passes(m, s.drift);
                    if (p == 0) break;
                    minutes = p * takes(m, s.length);
                } else {
                    minutes = takes(m, s.length);
                }
                if (m.found + minutes > m.minutes) break;
                m.found += minutes;
                m.drives++;
                i++;
            }
        }
        if (i < st.drives.size()) return ok(0);
        change();
        st = next;
        return ok(1);
    }

    private int partOf(Machine m, int what) {
        int[] all = {m.first, m.drives, m.driven, m.spent, m.found, m.minutes, m.out ? NONE : m.kind, m.again, m.over};
        return all[what];
    }

    int part(int plough, int what) {
        if (!isPlough(plough) || what < 0 || what > 8) return no(BAD);
        return ok(partOf(st.ploughs.get(plough), what));
    }

    int go(int plough, int n) {
        if (!isPlough(plough) || n < 1 || n > 50) return no(BAD);
        if (st.ploughs.get(plough).out) return no(NULL);
        if (st.ploughs.get(plough).driven == st.ploughs.get(plough).drives) return no(NO);
        State was = st.twin();
        Machine m = st.ploughs.get(plough);
        int many = 0;
        while (many < n && m.driven < m.drives) {
            int[] d = st.drives.get(m.first + m.driven);
            Street s = st.streets.get(d[0]);
            looks++;
            if (s.shut) break;
            if (d[3] == 1) {
                int p = passes(m, s.drift);
                if (p == 0) {
                    finding(DEEP);
                    m.spent += takes(m, s.length);
                } else {
                    m.spent += p * takes(m, s.length);
                    if (p > 1) m.again++;
                    if (s.cleared < s.sides) s.cleared++;
                    if (s.cleared >= s.sides) s.drift = 0;
                }
            } else {
                m.spent += takes(m, s.length);
            }
            m.driven++;
            if (m.spent > m.minutes) m.over++;
            many++;
        }
        if (many > 0) old = was;
        return ok(many);
    }

    int looks() {
        return looks;
    }

    int text() {
        StringBuilder all = new StringBuilder();
        for (int i = 0; i < st.drives.size(); i++) {
            String one = (st.drives.get(i)[3] == 1 ? "+" : "-") + st.drives.get(i)[0];
            for (int p = 0; p < st.ploughs.size(); p++) {
                Machine m = st.ploughs.get(p);
                if (m.drives > 0 && m.first + m.drives == i + 1) one += (char) ('A' + p);
            }
            if (all.length() + one.length() > 8000) break;
            all.append(one);
        }
        text = all.toString();
        return ok(text.length());
    }

    int sign(int i) {
        return i < 0 || i >= text.length() ? NONE : text.charAt(i);
    }

    int digest() {
        int h = 31 * 7 + st.crossings;
        for (Street s : st.streets) for (int w = 0; w <= 8; w++) h = 31 * h + toldOf(s, w);
        for (Gauge g : st.gauges) {
            h = 31 * h + g.crossing;
            h = 31 * h + g.hours();
            for (int k = 0; k < g.hours(); k++) h = 31 * h + readOf(g, k);
        }
        for (Machine m : st.ploughs) for (int w = 0; w <= 8; w++) h = 31 * h + partOf(m, w);
        for (int[] d : st.drives) for (int w = 0; w <= 3; w++) h = 31 * h + d[w];
        return ok(h);
    }

    int undo() {
        if (old == null) return ok(0);
        st = old;
        old = null;
        return ok(1);
    }

    int findings(int kind) {
        return kind < 0 || kind > 4 ? BAD : findings[kind];
    }

    int status() {
        return status;
    }

    int trace() {
        return trace;
    }

    int count(int what) {
        switch (what) {
            case 0: return st.crossings;
            case 1: return st.streets.size();
            case 2: return st.gauges.size();
            case 3: return st.ploughs.size();
            default: return BAD;
        }
    }
}
