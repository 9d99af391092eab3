import java.math.BigInteger;
import java.util.ArrayList;
import java.util.Collections;
import java.util.HashMap;
import java.util.HashSet;
import java.util.List;
import java.util.Map;
import java.util.Random;
import java.util.Set;
import java.util.TreeSet;

/**
 * Long runs of calls, each answer held against that of a model that follows the document's words with the
 * library's sets, lists and big numbers. The seeds are fixed: each time the same runs.
 */
public final class AgainstModel {
    private static int wrong = 0;

    public static void main(String[] args) {
        int runs = args.length > 0 ? Integer.parseInt(args[0]) : 300;
        for (int run = 0; run < runs && wrong < 20; run++) {
            new Run(run).go();
        }
        System.out.println(wrong == 0 ? runs + " runs are as the model's" : wrong + " answers are not as the model's");
        if (wrong != 0) {
            System.exit(1);
        }
    }

    /** One object's calls, as many as the document promises answers for. */
    private static final class Run {
        final int number;
        final Random random;
        final Counted x = new Counted();
        final Model m = new Model();
        final StringBuilder past = new StringBuilder();
        final int mostStates;
        final int wayShare;
        final int wrongShare;

        Run(int number) {
            this.number = number;
            random = new Random(77000 + number);
            mostStates = new int[] {3, 5, 8, 16}[random.nextInt(4)];
            wayShare = new int[] {20, 50, 80}[random.nextInt(3)];
            wrongShare = new int[] {0, 3, 20}[random.nextInt(3)];
        }

        void due(String call, long got, long want) {
            past.append(call).append('\n');
            if (got != want) {
                wrong++;
                System.out.println("run " + number + ":\n" + past + "answered " + got + ", the model " + want);
            }
        }

        int any(int least, int most) {
            if (random.nextInt(100) < wrongShare) {
                int[] odd = {least - 1, most + 1, -1, Integer.MAX_VALUE, Integer.MIN_VALUE, most + 100};
                return odd[random.nextInt(odd.length)];
            }
            return least + random.nextInt(Math.max(1, most - least + 1));
        }

        int anySet() {
            return any(0, m.sets.size() - 1);
        }

        int statesOf(int set) {
            return set >= 0 && set < m.sets.size() ? m.sets.get(set).n : 3;
        }

        int lettersOf(int set) {
            return set >= 0 && set < m.sets.size() ? m.sets.get(set).k : 2;
        }

        void go() {
            for (int i = 0; x.callsLeft() > 0 && wrong < 20; i++) {
                if (i % 8 == 0 || x.callsLeft() < 40) {
                    due("digest()", x.digest(), m.digest());
                } else if (random.nextInt(100) < wayShare) {
                    build();
                } else {
                    ask();
                }
            }
        }

        void build() {
            switch (random.nextInt(16)) {
                case 0, 1: {
                    int k = any(2, 4), n = any(1, mostStates);
                    due("set(" + k + ", " + n + ")", x.set(k, n), m.set(k, n));
                    break;
                }
                case 2: {
                    int set = anySet(), f = any(0, statesOf(set) - 1), l = any(0, lettersOf(set) - 1), t = any(0, statesOf(set) - 1);
                    due("unway(" + set + ", " + f + ", " + l + ", " + t + ")", x.unway(set, f, l, t), m.unway(set, f, l, t));
                    break;
                }
                case 3:
                    letters();
                    break;
                case 4:
                    due("forbid()", x.forbid(), m.forbid());
                    break;
                case 5: {
                    int k = any(2, 4);
                    due("byWords(" + k + ")", x.byWords(k), m.byWords(k));
                    break;
                }
                case 6:
                    if (random.nextInt(4) == 0) {
                        due("unforbid()", x.unforbid(), m.unforbid());
                    } else {
                        int row = any(0, (1 << 2 * m.w) - 1), l = any(0, 3);
                        due("tells(" + row + ", " + l + ")", x.tells(row, l), m.tells(row, l));
                    }
                    break;
                case 7:
                    if (random.nextInt(6) == 0) {
                        int w = any(1, 3);
                        due("window(" + w + ")", x.window(w), m.window(w));
                    } else {
                        int row = any(0, (1 << 2 * m.w) - 1), l = any(0, 1);
                        due("tells(" + row + ", " + l + ")", x.tells(row, l), m.tells(row, l));
                    }
                    break;
                default: {
                    int set = anySet(), f = any(0, statesOf(set) - 1), l = any(0, lettersOf(set) - 1), t = any(0, statesOf(set) - 1);
                    due("way(" + set + ", " + f + ", " + l + ", " + t + ")", x.way(set, f, l, t), m.way(set, f, l, t));
                }
            }
        }

        void letters() {
            if (random.nextInt(3) == 0) {
                due("empty()", x.empty(), m.empty());
            }
            int more = random.nextInt(12) == 0 ? 31 : random.nextInt(4);
            int most = random.nextInt(3) == 0 ? 3 : 1;
            for (int i = 0; i < more; i++) {
                int l = any(0, most);
                due("letter(" + l + ")", x.letter(l), m.letter(l));
            }
        }

        void ask() {
            int set = anySet();
            int state = any(0, statesOf(set) - 1);
            switch (random.nextInt(17)) {
                case 0: { int what = any(0, 5); due("about(" + set + ", " + what + ")", x.about(set, what), m.about(set, what)); break; }
                case 1: due("live(" + set + ", " + state + ")", x.live(set, state), m.live(set, state)); break;
                case 2: due("may(" + set + ")", x.may(set), m.may(set)); break;
                case 3: { int n = any(0, 24); due("howMany(" + set + ", " + n + ")", x.howMany(set, n), m.howMany(set, n)); break; }
                case 4: { int n = any(1, 10); due("loops(" + set + ", " + n + ")", x.loops(set, n), m.loops(set, n)); break; }
                case 5: { int n = any(1, random.nextInt(10) == 0 ? 7 : 4); due("rounds(" + set + ", " + n + ")", x.rounds(set, n), m.rounds(set, n)); break; }
                case 6: { int t = any(0, 9), w = any(0, 3); due("growth(" + set + ", " + t + ", " + w + ")", x.growth(set, t, w), m.growth(set, t, w)); break; }
                case 7, 8: { int o = anySet(); due("same(" + set + ", " + o + ")", x.same(set, o), m.same(set, o)); break; }
                case 9: due("part(" + set + ", " + state + ")", x.part(set, state), m.part(set, state)); break;
                case 10: due("pace(" + set + ", " + state + ")", x.pace(set, state), m.pace(set, state)); break;
                case 11, 12: maps(set, anySet()); break;
                case 13: { int p = any(1, 8), q = any(1, 4), l = any(1, 100); due("weights(" + set + ", " + p + ", " + q + ", " + l + ")", x.weights(set, p, q, l), m.weights(set, p, q, l)); break; }
                case 14: { int p = any(1, 8), q = any(1, 4), l = any(1, 100); due("weight(" + set + ", " + p + ", " + q + ", " + l + ", " + state + ")", x.weight(set, p, q, l, state), m.weight(set, p, q, l, state)); break; }
                case 15: { int what = any(0, 3); due("count(" + what + ")", x.count(what), m.count(what)); break; }
                default: { int i = any(0, 31); due("letterAt(" + i + ")", x.letterAt(i), m.letterAt(i)); }
            }
        }

        void maps(int set, int into) {
            int got = x.maps(set, into);
            int want = m.maps(set, into);
            boolean either = want == Model.FAILS_OR_SPENT && (got == 0 || got == RowRules.SPENT);
            due("maps(" + set + ", " + into + ")", got, either ? got : want);
        }
    }

    private record Way(int from, int letter, int to) { }

    private static final class Graph {
        final int k, n;
        final Set<Way> ways = new HashSet<>();

        Graph(int k, int n) {
            this.k = k;
            this.n = n;
        }

        Set<Integer> live() {
            Set<Integer> left = new TreeSet<>();
            for (int s = 0; s < n; s++) left.add(s);
            boolean gone = true;
            while (gone) {
                gone = false;
                for (int s = 0; s < n; s++) {
                    final int state = s;
                    boolean led = ways.stream().anyMatch(w -> w.to == state && left.contains(w.from));
                    boolean leads = ways.stream().anyMatch(w -> w.from == state && left.contains(w.to));
                    if (left.contains(s) && !(led && leads)) {
                        left.remove(s);
                        gone = true;
                    }
                }
            }
            return left;
        }

        List<Way> liveWays() {
            Set<Integer> live = live();
            List<Way> list = new ArrayList<>();
            for (Way w : ways) if (live.contains(w.from) && live.contains(w.to)) list.add(w);
            return list;
        }
    }

    private static final class Model {
        static final int MET = 20000;
        /** The document tells no order in which the sets of a MAPPING are met, nor when it is seen that one fails. */
        static final int FAILS_OR_SPENT = -99;
        final List<Graph> sets = new ArrayList<>();
        final List<Integer> word = new ArrayList<>();
        final List<List<Integer>> barred = new ArrayList<>();
        int w = 1;
        int[] told = new int[4];

        boolean isSet(int set) { return set >= 0 && set < sets.size(); }
        boolean isState(int set, int s) { return isSet(set) && s >= 0 && s < sets.get(set).n; }

        int set(int k, int n) {
            if (k < 2 || k > 4 || n < 1 || n > 16) return -2;
            if (sets.size() == 6) return -4;
            sets.add(new Graph(k, n));
            return sets.size() - 1;
        }

        int way(int set, int f, int l, int t) {
            if (!isState(set, f) || !isState(set, t) || l < 0 || l >= sets.get(set).k) return -2;
            return sets.get(set).ways.add(new Way(f, l, t)) ? 1 : -3;
        }

        int unway(int set, int f, int l, int t) {
            if (!isState(set, f) || !isState(set, t) || l < 0 || l >= sets.get(set).k) return -2;
            return sets.get(set).ways.remove(new Way(f, l, t)) ? 1 : -3;
        }

        int empty() { int was = word.size(); word.clear(); return was; }

        int letter(int l) {
            if (l < 0 || l > 3) return -2;
            if (word.size() == 30) return -4;
            word.add(l);
            return word.size();
        }

        int letterAt(int i) { return i >= 0 && i < word.size() ? word.get(i) : -1; }

        int forbid() {
            if (word.size() < 1 || word.size() > 5) return -3;
            if (barred.size() == 8) return -4;
            barred.add(new ArrayList<>(word));
            return barred.size();
        }

        int unforbid() { int was = barred.size(); barred.clear(); return was; }

        int byWords(int k) {
            if (k < 2 || k > 4) return -2;
            int m = 2;
            for (List<Integer> b : barred) {
                for (int l : b) if (l >= k) return -2;
                m = Math.max(m, b.size());
            }
            if (Math.pow(k, m - 1) > 16.5) return -3;
            if (sets.size() == 6) return -4;
            List<List<Integer>> rows = new ArrayList<>();
            rows.add(List.of());
            for (int i = 0; i < m - 1; i++) {
                List<List<Integer>> longer = new ArrayList<>();
                for (List<Integer> r : rows) for (int l = 0; l < k; l++) { List<Integer> c = new ArrayList<>(r); c.add(l); longer.add(c); }
                rows = longer;
            }
            Graph g = new Graph(k, rows.size());
            for (int from = 0; from < rows.size(); from++) {
                for (int l = 0; l < k; l++) {
                    List<Integer> whole = new ArrayList<>(rows.get(from));
                    whole.add(l);
                    boolean stands = false;
                    for (List<Integer> b : barred) stands |= Collections.indexOfSubList(whole, b) >= 0;
                    if (!stands) g.ways.add(new Way(from, l, rows.indexOf(whole.subList(1, m))));
                }
            }
            sets.add(g);
            return sets.size() - 1;
        }

        int about(int set, int what) {
            if (!isSet(set)) return -2;
            Graph g = sets.get(set);
            switch (what) {
                case 0: return g.k;
                case 1: return g.n;
                case 2: return g.ways.size();
                case 3: return g.live().size();
                case 4: return g.liveWays().size();
                case 5: {
                    Set<Integer> tells = new HashSet<>();
                    for (int s : g.live()) tells.add(part(set, s));
                    return tells.size();
                }
                default: return -2;
            }
        }

        int live(int set, int s) { return !isState(set, s) ? -2 : sets.get(set).live().contains(s) ? 1 : 0; }

        static Set<Integer> step(List<Way> ways, Set<Integer> from, int l) {
            Set<Integer> to = new TreeSet<>();
            for (Way w : ways) if (w.letter == l && from.contains(w.from)) to.add(w.to);
            return to;
        }

        static boolean stands(Graph g, List<Integer> word) {
            List<Way> ways = g.liveWays();
            Set<Integer> at = g.live();
            for (int l : word) at = step(ways, at, l);
            return !at.isEmpty();
        }

        int may(int set) { return !isSet(set) ? -2 : stands(sets.get(set), word) ? 1 : 0; }

        long howMany(int set, int n) {
            if (!isSet(set) || n < 0 || n > 24) return -2;
            Graph g = sets.get(set);
            return words(g, g.liveWays(), g.live(), n, new HashMap<>());
        }

        static long words(Graph g, List<Way> ways, Set<Integer> at, int n, Map<String, Long> known) {
            if (at.isEmpty()) return 0;
            if (n == 0) return 1;
            String key = at + " " + n;
            Long old = known.get(key);
            if (old != null) return old;
            long sum = 0;
            for (int l = 0; l < g.k; l++) sum += words(g, ways, step(ways, at, l), n - 1, known);
            known.put(key, sum);
            return sum;
        }

        long loops(int set, int n) {
            if (!isSet(set) || n < 1 || n > 10) return -2;
            Graph g = sets.get(set);
            List<Way> ways = g.liveWays();
            BigInteger sum = BigInteger.ZERO;
            for (int s : g.live()) {
                BigInteger[] many = zeros(g.n);
                many[s] = BigInteger.ONE;
                for (int i = 0; i < n; i++) {
                    BigInteger[] next = zeros(g.n);
                    for (Way w : ways) next[w.to] = next[w.to].add(many[w.from]);
                    many = next;
                }
                sum = sum.add(many[s]);
            }
            return sum.longValueExact();
        }

        static BigInteger[] zeros(int n) {
            BigInteger[] row = new BigInteger[n];
            java.util.Arrays.fill(row, BigInteger.ZERO);
            return row;
        }

        int rounds(int set, int n) {
            if (!isSet(set) || n < 1 || n > 7) return -2;
            Graph g = sets.get(set);
            List<Way> ways = g.liveWays();
            int all = 1, sum = 0;
            for (int i = 0; i < n; i++) all *= g.k;
            for (int number = 0; number < all; number++) {
                Set<Integer> at = g.live();
                // more turns than there are states: some state comes again, so the row goes on for ever
                for (int turn = 0; turn <= g.n && !at.isEmpty(); turn++) {
                    int rest = number;
                    for (int i = 0; i < n; i++) {
                        at = step(ways, at, rest % g.k);
                        rest /= g.k;
                    }
                }
                if (!at.isEmpty()) sum++;
            }
            return sum;
        }

        long growth(int set, int t, int what) {
            if (!isSet(set) || t < 0 || t > 9 || what < 0 || what > 3) return -2;
            Graph g = sets.get(set);
            if (g.live().isEmpty()) return -3;
            BigInteger[] v = zeros(g.n), old = null;
            for (int s : g.live()) v[s] = BigInteger.ONE;
            for (int i = 0; i <= t; i++) {
                old = v;
                v = zeros(g.n);
                for (Way w : g.liveWays()) v[w.from] = v[w.from].add(old[w.to]);
            }
            BigInteger above = null, below = null;
            for (int s : g.live()) {
                int side = above == null ? 0 : v[s].multiply(below).compareTo(above.multiply(old[s]));
                if (above == null || (what < 2 ? side < 0 : side > 0)) {
                    above = v[s];
                    below = old[s];
                }
            }
            return (what % 2 == 0 ? above : below).divide(above.gcd(below)).longValueExact();
        }

        int same(int set, int other) {
            if (!isSet(set) || !isSet(other)) return -2;
            Graph a = sets.get(set), b = sets.get(other);
            if (a.k != b.k) return -3;
            List<Way> waysA = a.liveWays(), waysB = b.liveWays();
            List<Set<Integer>> as = new ArrayList<>(), bs = new ArrayList<>();
            List<List<Integer>> led = new ArrayList<>();
            Set<String> met = new HashSet<>();
            if (a.live().isEmpty() != b.live().isEmpty()) { word.clear(); return 0; }
            as.add(a.live()); bs.add(b.live()); led.add(List.of());
            met.add(a.live() + " " + b.live());
            for (int i = 0; i < as.size(); i++) {
                for (int l = 0; l < a.k; l++) {
                    Set<Integer> x = step(waysA, as.get(i), l), y = step(waysB, bs.get(i), l);
                    if (x.isEmpty() && y.isEmpty()) continue;
                    List<Integer> longer = new ArrayList<>(led.get(i));
                    longer.add(l);
                    if (x.isEmpty() || y.isEmpty()) {
                        word.clear();
                        word.addAll(longer.subList(0, Math.min(30, longer.size())));
                        return 0;
                    }
                    if (met.add(x + " " + y)) {
                        if (met.size() > MET) return -5;
                        as.add(x); bs.add(y); led.add(longer);
                    }
                }
            }
            return 1;
        }

        static Set<Integer> reached(Graph g, int s) {
            Set<Integer> reached = new TreeSet<>();
            List<Integer> queue = new ArrayList<>(List.of(s));
            for (int i = 0; i < queue.size(); i++) {
                for (Way w : g.liveWays()) if (w.from == queue.get(i) && reached.add(w.to)) queue.add(w.to);
            }
            return reached;
        }

        int part(int set, int s) {
            if (!isState(set, s)) return -2;
            Graph g = sets.get(set);
            if (!g.live().contains(s)) return -1;
            for (int t : reached(g, s)) if (t <= s && reached(g, t).contains(s)) return t;
            return s;
        }

        int pace(int set, int s) {
            if (!isState(set, s)) return -2;
            Graph g = sets.get(set);
            if (!g.live().contains(s)) return -1;
            List<Way> ways = g.liveWays();
            Set<Integer> at = new TreeSet<>(List.of(s));
            int pace = 0;
            for (int n = 1; n <= 80; n++) {
                Set<Integer> next = new TreeSet<>();
                for (Way w : ways) if (at.contains(w.from)) next.add(w.to);
                at = next;
                if (at.contains(s)) pace = BigInteger.valueOf(pace).gcd(BigInteger.valueOf(n)).intValue();
            }
            return pace;
        }

        int window(int width) {
            if (width < 1 || width > 3) return -2;
            w = width;
            told = new int[(int) Math.pow(4, w)];
            return 1;
        }

        int tells(int row, int l) {
            if (row < 0 || row >= told.length || l < 0 || l > 3) return -2;
            int was = told[row];
            told[row] = l;
            return was;
        }

        private record Node(int state, List<Integer> last, Set<Integer> at) { }

        int maps(int set, int into) {
            if (!isSet(set) || !isSet(into)) return -2;
            Graph a = sets.get(set), b = sets.get(into);
            List<Way> waysA = a.liveWays(), waysB = b.liveWays();
            Set<Node> met = new HashSet<>();
            List<Node> queue = new ArrayList<>();
            boolean fails = !a.live().isEmpty() && b.live().isEmpty();
            for (int s : a.live()) {
                Node node = new Node(s, List.of(), b.live());
                met.add(node);
                queue.add(node);
            }
            for (int i = 0; i < queue.size(); i++) {
                if (met.size() > 3 * MET) return FAILS_OR_SPENT;
                Node node = queue.get(i);
                for (Way way : waysA) {
                    if (way.from != node.state) continue;
                    List<Integer> last = new ArrayList<>(node.last);
                    last.add(way.letter);
                    Set<Integer> at = node.at;
                    if (last.size() == w) {
                        int row = 0;
                        for (int l : last) row = row * 4 + l;
                        at = step(waysB, at, told[row]);
                        last.remove(0);
                    }
                    fails |= at.isEmpty();
                    Node next = new Node(way.to, last, at);
                    if (!at.isEmpty() && met.add(next)) queue.add(next);
                }
            }
            if (met.size() > MET) return fails ? FAILS_OR_SPENT : -5;
            return fails ? 0 : 1;
        }

        long[] weigh(Graph g, int p, int q, int most) {
            long[] v = new long[g.n];
            for (int s : g.live()) v[s] = most;
            List<Way> ways = g.liveWays();
            while (true) {
                long[] sum = v.clone();
                for (int i = 0; i < q; i++) {
                    long[] next = new long[g.n];
                    for (Way w : ways) next[w.from] += sum[w.to];
                    sum = next;
                }
                boolean changed = false;
                long[] now = new long[g.n];
                for (int s = 0; s < g.n; s++) {
                    now[s] = Math.min(v[s], sum[s] / (1 << p));
                    changed |= now[s] != v[s];
                }
                v = now;
                if (!changed) return v;
            }
        }

        static boolean areWeights(int p, int q, int most) { return p >= 1 && p <= 8 && q >= 1 && q <= 4 && most >= 1 && most <= 100; }

        int weights(int set, int p, int q, int most) {
            if (!isSet(set) || !areWeights(p, q, most)) return -2;
            int sum = 0;
            for (long v : weigh(sets.get(set), p, q, most)) sum += v;
            return sum;
        }

        int weight(int set, int p, int q, int most, int s) {
            if (!isState(set, s) || !areWeights(p, q, most)) return -2;
            return (int) weigh(sets.get(set), p, q, most)[s];
        }

        int count(int what) {
            switch (what) {
                case 0: return sets.size();
                case 1: return word.size();
                case 2: return barred.size();
                case 3: return w;
                default: return -2;
            }
        }

        long digest() {
            List<Long> all = new ArrayList<>();
            for (int i = 0; i <= 3; i++) all.add((long) count(i));
            for (int set = 0; set < sets.size(); set++) {
                for (int i = 0; i <= 4; i++) all.add((long) about(set, i));
                Graph g = sets.get(set);
                for (int s = 0; s < g.n; s++) {
                    for (int l = 0; l < g.k; l++) {
                        long bits = 0;
                        for (Way way : g.ways) if (way.from == s && way.letter == l) bits += 1L << way.to;
                        all.add(bits);
                    }
                }
            }
            for (int l : word) all.add((long) l);
            for (List<Integer> b : barred) {
                all.add((long) b.size());
                for (int l : b) all.add((long) l);
            }
            for (int l : told) all.add((long) l);
            long h = 193;
            for (long v : all) h = 31 * h + v;
            return h;
        }
    }
}
