import java.math.BigInteger;
import java.util.ArrayDeque;
import java.util.ArrayList;
import java.util.Deque;
import java.util.List;
import java.util.NoSuchElementException;
import java.util.function.Predicate;
import java.util.function.ToIntFunction;
import java.util.stream.IntStream;

/**
 * The document told a second time, by other means than the class: objects, lists, trees of conditions, flows by paths.
 * It is slow and plain on purpose; runs of calls are put to both, and the answers compared.
 */
public final class Model {
    static final class Family {
        int pride, needs, larder, off;

        Family copy() {
            Family f = new Family();
            f.pride = pride;
            f.needs = needs;
            f.larder = larder;
            f.off = off;
            return f;
        }
    }

    static final class Grudge {
        int number, from, to, slight, age, ice;
        boolean nursed, thawed;

        Grudge copy() {
            Grudge g = new Grudge();
            g.number = number;
            g.from = from;
            g.to = to;
            g.slight = slight;
            g.age = age;
            g.ice = ice;
            g.nursed = nursed;
            g.thawed = thawed;
            return g;
        }

        boolean of(int f) {
            return from == f || to == f;
        }

        boolean joins(int a, int b) {
            return from == a && to == b || from == b && to == a;
        }
    }

    record Rule(String kind, int amount, Predicate<View> holds) { }

    record View(State state, Grudge grudge) { }

    static final class State {
        List<Family> families = new ArrayList<>();
        List<Grudge> grudges = new ArrayList<>();
        List<int[]> log = new ArrayList<>();
        int[] bitter = new int[8], deep = new int[8], heat = {3, 3, 3, 3};
        int texts, time, store, kiss, seed = 1;
        boolean propped;
        List<Rule> law;

        State copy() {
            State s = new State();
            for (Family f : families) s.families.add(f.copy());
            for (Grudge g : grudges) s.grudges.add(g.copy());
            s.log.addAll(log);
            s.bitter = bitter.clone();
            s.deep = deep.clone();
            s.heat = heat.clone();
            s.texts = texts;
            s.time = time;
            s.store = store;
            s.kiss = kiss;
            s.seed = seed;
            s.propped = propped;
            s.law = law;
            return s;
        }

        List<Grudge> frozen() {
            return grudges.stream().filter(g -> !g.thawed).toList();
        }

        boolean mutual(Grudge g) {
            return frozen().stream().anyMatch(h -> h.from == g.to && h.to == g.from);
        }

        int by(String kind, Grudge g) {
            int sum = kind.equals("melt") ? heat[time % 4] : 0;
            if (law == null) {
                return kind.equals("freeze") ? bitter[g.slight] + (g.nursed ? 5 : 0) : sum;
            }
            for (Rule rule : law) {
                if (rule.kind.equals(kind) && rule.holds.test(new View(this, g))) sum += rule.amount;
            }
            return sum;
        }

        int draw() {
            seed = (int) (1103515245L * seed + 12345L);
            return (seed >> 16) & 0x7fff;
        }

        void row(Grudge g, int how, int ice) {
            log.add(0, new int[] {time, g.number, how, ice});
            if (log.size() > 60) log.remove(60);
        }

        int season(boolean draws) {
            int many = 0;
            for (Grudge g : grudges) {
                if (g.thawed) continue;
                g.ice = Math.min(999, g.ice + by("freeze", g));
                int melts = by("melt", g);
                int hardens = by("harden", g);
                if (melts > hardens) g.ice = Math.max(0, g.ice - (melts - hardens));
                g.age = Math.min(99, g.age + 1);
                if (g.ice == 0) {
                    g.thawed = true;
                    row(g, 0, 0);
                    many++;
                }
            }
            for (Family f : families) {
                if (f.needs <= f.larder) {
                    f.larder -= f.needs;
                } else {
                    f.larder = 0;
                    f.off = Math.min(99, f.off + 1);
                }
            }
            int lost = heat[time % 4];
            store = Math.max(0, store - (propped ? 5 * lost : lost));
            if (draws && draw() % 100 < kiss && !frozen().isEmpty()) {
                Grudge g = frozen().get(draw() % frozen().size());
                int half = g.ice / 2 + g.ice % 2;
                g.ice -= half;
                row(g, 4, half);
            }
            time = Math.min(9999, time + 1);
            return many;
        }

        int ice() {
            return frozen().stream().mapToInt(g -> g.ice).sum();
        }
    }

    private State s = new State();
    private State image;
    private final Deque<State> past = new ArrayDeque<>();
    private final List<Integer> tape = new ArrayList<>();
    private int fault = -1;

    // ---- texts

    private String use() {
        StringBuilder b = new StringBuilder();
        for (int t : tape) b.append((char) t);
        tape.clear();
        return b.toString();
    }

    private static final class Wrong extends Exception {
        final int at;

        Wrong(int at) {
            this.at = at;
        }
    }

    /** Reads a text from its begin on, byte by byte. */
    private static final class Scan {
        final String t;
        int at;

        Scan(String t) {
            this.t = t;
            blanks();
        }

        void blanks() {
            while (at < t.length() && t.charAt(at) == ' ') at++;
        }

        boolean over() {
            return at >= t.length();
        }

        String peek() {
            int e = at;
            while (e < t.length() && t.charAt(e) >= 'a' && t.charAt(e) <= 'z') e++;
            if (e > at) return t.substring(at, e);
            while (e < t.length() && t.charAt(e) >= '0' && t.charAt(e) <= '9') e++;
            if (e > at) return t.substring(at, e);
            return over() ? "" : t.substring(at, at + 1);
        }

        boolean got(String word) {
            if (!peek().equals(word)) return false;
            at += word.length();
            blanks();
            return true;
        }

        void must(String word) throws Wrong {
            if (!got(word)) throw new Wrong(at);
        }

        int number(int most) throws Wrong {
            String p = peek();
            if (!p.matches("[0-9]{1,3}") || Integer.parseInt(p) > most) throw new Wrong(at);
            got(p);
            return Integer.parseInt(p);
        }

        int slight() throws Wrong {
            String p = peek();
            if (!p.matches("[a-h]")) throw new Wrong(at);
            got(p);
            return p.charAt(0) - 'a';
        }
    }

    private static void townLine(Scan in, State to) throws Wrong {
        int begin = in.at;
        if (in.got("family")) {
            if (to.families.size() == 6) throw new Wrong(begin);
            Family f = new Family();
            in.must("pride");
            f.pride = in.number(9);
            in.must("needs");
            f.needs = in.number(99);
            if (in.got("larder")) f.larder = in.number(999);
            to.families.add(f);
        } else if (in.got("slight")) {
            int which = in.slight();
            in.must("bitter");
            to.bitter[which] = in.number(9);
            in.must("deep");
            to.deep[which] = in.number(9);
        } else if (in.got("grudge")) {
            if (to.grudges.size() == 10) throw new Wrong(begin);
            Grudge g = new Grudge();
            g.number = to.grudges.size();
            g.from = in.number(to.families.size() - 1);
            int second = in.at;
            g.to = in.number(to.families.size() - 1);
            if (g.to == g.from) throw new Wrong(second);
            in.must("over");
            g.slight = in.slight();
            in.must("ice");
            g.ice = in.number(999);
            if (in.got("age")) g.age = in.number(99);
            g.nursed = in.got("nursed");
            to.grudges.add(g);
        } else if (in.got("heat")) {
            List<String> names = List.of("spring", "summer", "autumn", "winter");
            int q = names.indexOf(in.peek());
            if (q < 0) throw new Wrong(in.at);
            in.got(names.get(q));
            to.heat[q] = in.number(20);
        } else if (in.got("store")) {
            to.store = in.number(999);
        } else if (in.got("kiss")) {
            to.kiss = in.number(100);
        } else if (in.got("time")) {
            to.time = in.number(999);
        } else {
            in.must("propped");
            to.propped = true;
        }
    }

    private static Rule lawLine(Scan in) throws Wrong {
        String kind = in.peek();
        if (!List.of("freeze", "melt", "harden").contains(kind)) throw new Wrong(in.at);
        in.got(kind);
        int n = in.number(100);
        return new Rule(kind, n, in.got("if") ? either(in, 0) : v -> true);
    }

    private static Predicate<View> either(Scan in, int deep) throws Wrong {
        Predicate<View> all = both(in, deep);
        while (in.got("or")) all = all.or(both(in, deep));
        return all;
    }

    private static Predicate<View> both(Scan in, int deep) throws Wrong {
        Predicate<View> all = atom(in, deep);
        while (in.got("and")) all = all.and(atom(in, deep));
        return all;
    }

    private static Predicate<View> atom(Scan in, int deep) throws Wrong {
        int begin = in.at;
        if (in.got("not")) {
            if (deep == 6) throw new Wrong(begin);
            return atom(in, deep + 1).negate();
        }
        if (in.got("(")) {
            if (deep == 6) throw new Wrong(begin);
            Predicate<View> inner = either(in, deep + 1);
            in.must(")");
            return inner;
        }
        if (in.got("nursed")) return v -> v.grudge.nursed;
        if (in.got("mutual")) return v -> v.state.mutual(v.grudge);
        if (in.got("propped")) return v -> v.state.propped;
        ToIntFunction<View> left = sum(in);
        boolean less = in.peek().equals("<");
        if (!less && !in.peek().equals(">")) throw new Wrong(in.at);
        in.got(in.peek());
        ToIntFunction<View> right = sum(in);
        return v -> less ? left.applyAsInt(v) < right.applyAsInt(v) : left.applyAsInt(v) > right.applyAsInt(v);
    }

    private static ToIntFunction<View> sum(Scan in) throws Wrong {
        ToIntFunction<View> all = part(in);
        while (in.got("+")) {
            ToIntFunction<View> before = all;
            ToIntFunction<View> next = part(in);
            all = v -> before.applyAsInt(v) + next.applyAsInt(v);
        }
        return all;
    }

    private static ToIntFunction<View> part(Scan in) throws Wrong {
        if (in.got("grudge")) return v -> v.grudge.number;
        if (in.got("age")) return v -> v.grudge.age;
        if (in.got("ice")) return v -> v.grudge.ice;
        if (in.got("pride")) return v -> v.state.families.get(v.grudge.from).pride;
        if (in.got("bitter")) return v -> v.state.bitter[v.grudge.slight];
        if (in.got("deep")) return v -> v.state.deep[v.grudge.slight];
        if (in.got("heat")) return v -> v.state.heat[v.state.time % 4];
        if (in.got("season")) return v -> v.state.time % 4;
        int n = in.number(999);
        return v -> n;
    }

    // ---- the face

    public int feed(int a, int b, int c, int d, int e) {
        if (tape.size() > 380) return -1;
        for (int n : new int[] {a, b, c, d, e}) {
            for (byte x : BigInteger.valueOf(n & 0xffffffffL | 1L << 32).toByteArray()) tape.add(x & 255);
            tape.remove(tape.size() - 5);
        }
        return tape.size();
    }

    public boolean end(int n) {
        if (n < 0 || n > tape.size()) return false;
        while (tape.size() > n) tape.remove(tape.size() - 1);
        return true;
    }

    public int town() {
        State to = s.copy();
        fault = -1;
        try {
            Scan in = new Scan(use());
            for (int lines = 0; !in.over() || lines > 0; lines++) {
                if (lines == 14) throw new Wrong(in.at);
                townLine(in, to);
                if (in.over()) break;
                in.must(";");
            }
        } catch (Wrong w) {
            fault = w.at;
            throw new IllegalArgumentException();
        }
        if (s.texts == 12) throw new UnsupportedOperationException();
        s = to;
        past.clear();
        return ++s.texts;
    }

    public int law() {
        List<Rule> rules = new ArrayList<>();
        fault = -1;
        try {
            Scan in = new Scan(use());
            while (!in.over() || !rules.isEmpty()) {
                if (rules.size() == 12) throw new Wrong(in.at);
                rules.add(lawLine(in));
                if (in.over()) break;
                in.must(";");
            }
        } catch (Wrong w) {
            fault = w.at;
            throw new IllegalArgumentException();
        }
        s.law = rules;
        past.clear();
        return rules.size();
    }

    public int fault() {
        return fault;
    }

    private Family fam(int f) {
        if (f < 0 || f >= s.families.size()) throw new IndexOutOfBoundsException();
        return s.families.get(f);
    }

    private Grudge gru(int g) {
        if (g < 0 || g >= s.grudges.size()) throw new IndexOutOfBoundsException();
        return s.grudges.get(g);
    }

    private static void in(int n, int least, int most) {
        if (n < least || n > most) throw new IllegalArgumentException();
    }

    private static void can(boolean is) {
        if (!is) throw new IllegalStateException();
    }

    private State ahead(int n, boolean draws) {
        State t = s.copy();
        for (int i = 0; i < n; i++) t.season(draws);
        return t;
    }

    private int firstAhead(Predicate<State> is) {
        State t = s.copy();
        for (int n = 0; n <= 60; n++) {
            if (is.test(t)) return n;
            t.season(false);
        }
        return -1;
    }

    private int lasts(int f) {
        return firstAhead(t -> t.families.get(f).off > s.families.get(f).off);
    }

    private int bits(Predicate<Grudge> is) {
        return s.frozen().stream().filter(is).mapToInt(g -> 1 << g.number).sum();
    }

    public int family(int f, int what) {
        Family x = fam(f);
        int gives = s.frozen().stream().filter(g -> g.of(f)).mapToInt(g -> g.ice).sum();
        return switch (what) {
            case 0 -> x.pride;
            case 1 -> x.needs;
            case 2 -> x.larder;
            case 3 -> x.off;
            case 4 -> gives;
            case 5 -> lasts(f);
            case 6 -> Math.max(0, gives / 10 + x.pride - x.off);
            default -> throw new NoSuchElementException();
        };
    }

    public int grudge(int g, int what) {
        Grudge x = gru(g);
        return switch (what) {
            case 0 -> x.from;
            case 1 -> x.to;
            case 2 -> x.slight;
            case 3 -> x.age;
            case 4 -> x.ice;
            case 5 -> x.nursed ? 1 : 0;
            case 6 -> x.thawed ? 1 : 0;
            case 7 -> s.by("freeze", x);
            case 8 -> s.by("melt", x);
            case 9 -> s.by("harden", x);
            case 10 -> x.thawed || s.ice() == 0 ? 0 : 100 * x.ice / s.ice();
            default -> throw new NoSuchElementException();
        };
    }

    public int slight(int a, int what) {
        if (a < 0 || a > 7) throw new IndexOutOfBoundsException();
        return switch (what) {
            case 0 -> s.bitter[a];
            case 1 -> s.deep[a];
            case 2 -> bits(g -> g.slight == a);
            default -> throw new NoSuchElementException();
        };
    }

    public int heat(int q) {
        if (q < 0 || q > 3) throw new IndexOutOfBoundsException();
        return s.heat[q];
    }

    private void act() {
        past.addLast(s.copy());
        if (past.size() > 12) past.removeFirst();
    }

    public int seasons(int n) {
        in(n, 1, 60);
        act();
        int many = 0;
        for (int i = 0; i < n; i++) many += s.season(true);
        return many;
    }

    public int insult(int f, int o, int a) {
        fam(f);
        fam(o);
        if (a < 0 || a > 7) throw new IndexOutOfBoundsException();
        if (f == o) throw new IllegalArgumentException();
        Grudge old = s.frozen().stream().filter(g -> g.from == f && g.to == o).findFirst().orElse(null);
        can(old != null || s.grudges.size() < 10);
        int more = 10 + s.bitter[a];
        act();
        if (old == null) {
            old = new Grudge();
            old.number = s.grudges.size();
            old.from = f;
            old.to = o;
            s.grudges.add(old);
        }
        old.slight = a;
        old.ice = Math.min(999, old.ice + more);
        return old.number;
    }

    public int forgive(int g) {
        Grudge x = gru(g);
        can(!x.thawed);
        act();
        x.thawed = true;
        s.row(x, 1, 0);
        return x.ice;
    }

    public boolean nurse(int g, boolean is) {
        Grudge x = gru(g);
        can(!x.thawed);
        act();
        boolean was = x.nursed;
        x.nursed = is;
        return was != is;
    }

    public int saw(int g, int f, int n) {
        Grudge x = gru(g);
        Family y = fam(f);
        in(n, 1, 999);
        can(!x.thawed && !x.of(f) && x.ice >= n);
        act();
        x.ice -= n;
        y.larder = Math.min(999, y.larder + n);
        s.row(x, 2, n);
        return x.ice;
    }

    public int store(int g, int n) {
        Grudge x = gru(g);
        in(n, 1, 999);
        can(!x.thawed && x.ice >= n);
        act();
        x.ice -= n;
        s.store = Math.min(9999, s.store + n);
        s.row(x, 3, n);
        return s.store;
    }

    public int deliver(int f, int n) {
        Family y = fam(f);
        in(n, 1, 999);
        can(s.store >= n);
        act();
        s.store -= n;
        y.larder = Math.min(999, y.larder + n);
        return y.larder;
    }

    public boolean prop(boolean is) {
        act();
        boolean was = s.propped;
        s.propped = is;
        return was != is;
    }

    public int cold() {
        return s.ice() + s.store;
    }

    public int stock() {
        return firstAhead(t -> t.store == 0);
    }

    public int scarce() {
        int best = -1;
        for (int f = 0; f < s.families.size(); f++) {
            if (lasts(f) >= 0 && (best < 0 || lasts(f) < lasts(best))) best = f;
        }
        return best;
    }

    public int hot() {
        int thawed = s.grudges.size() - s.frozen().size();
        return firstAhead(t -> t.grudges.size() - t.frozen().size() > thawed);
    }

    private int wants(int f) {
        return Math.max(0, s.families.get(f).needs - s.families.get(f).larder);
    }

    /** ICE one by one, each along a path that may move an earlier one. */
    public int keeps() {
        List<Grudge> ice = s.frozen();
        int n = s.families.size();
        int[][] gives = new int[ice.size()][n];
        int many = 0;
        for (int g = 0; g < ice.size(); g++) {
            for (int left = ice.get(g).ice; left > 0; left--) {
                if (!push(ice, gives, g, new boolean[ice.size()])) break;
                many++;
            }
        }
        return many;
    }

    private boolean push(List<Grudge> ice, int[][] gives, int g, boolean[] seen) {
        seen[g] = true;
        for (int f = 0; f < s.families.size(); f++) {
            if (ice.get(g).of(f)) continue;
            int has = 0;
            for (int[] row : gives) has += row[f];
            if (has < wants(f)) {
                gives[g][f]++;
                return true;
            }
        }
        for (int f = 0; f < s.families.size(); f++) {
            if (ice.get(g).of(f)) continue;
            for (int h = 0; h < ice.size(); h++) {
                if (!seen[h] && gives[h][f] > 0 && push(ice, gives, h, seen)) {
                    gives[h][f]--;
                    gives[g][f]++;
                    return true;
                }
            }
        }
        return false;
    }

    public int misses(int set) {
        int[] in = IntStream.range(0, s.families.size()).filter(f -> (set >>> f & 1) == 1).toArray();
        int want = IntStream.of(in).map(this::wants).sum();
        for (Grudge g : s.frozen()) {
            if (IntStream.of(in).anyMatch(f -> !g.of(f))) want -= g.ice;
        }
        return Math.max(0, want);
    }

    public int tight() {
        int best = 0;
        for (int set = (1 << s.families.size()) - 1; set > 0; set--) {
            if (misses(set) > 0 && Integer.bitCount(set) >= Integer.bitCount(best)) best = set;
        }
        return best;
    }

    private static int friends(State t) {
        int many = 0;
        for (int a = 0; a < t.families.size(); a++) {
            for (int b = 0; b < a; b++) {
                int x = a;
                int y = b;
                if (t.frozen().stream().noneMatch(g -> g.joins(x, y))) many++;
            }
        }
        return many;
    }

    public int thaw(int x) {
        in(x, 0, 999);
        long[] best = null;
        for (int set = 0; set < 1 << s.grudges.size(); set++) {
            State t = s.copy();
            boolean all = true;
            for (Grudge g : t.grudges) {
                if ((set >> g.number & 1) == 1) {
                    all &= !g.thawed;
                    g.thawed = true;
                }
            }
            if (!all || t.ice() < x) continue;
            long[] it = {-friends(t), Integer.bitCount(set), set};
            if (best == null || java.util.Arrays.compare(it, best) < 0) best = it;
        }
        return best == null ? -1 : (int) best[2];
    }

    public int friends() {
        return friends(s);
    }

    public int camps(boolean many) {
        int best = 0;
        int least = Integer.MAX_VALUE;
        for (int set = 0; set < 64; set++) {
            int camp = set;
            if ((camp & 1) == 1 || camp >> s.families.size() != 0) continue;
            int within = (int) s.frozen().stream().filter(g -> (camp >> g.from & 1) == (camp >> g.to & 1)).count();
            if (within < least) {
                least = within;
                best = camp;
            }
        }
        return many ? least : best;
    }

    private List<Integer> fitting() {
        String t = use();
        if (t.length() % 2 == 1 || t.length() > 40) throw new IllegalArgumentException();
        for (int i = 0; i < t.length(); i += 2) {
            if (t.charAt(i) > 1 || t.charAt(i + 1) > 9) throw new IllegalArgumentException();
        }
        List<Integer> fit = new ArrayList<>();
        for (int a = 0; a < 8; a++) {
            int right = 0;
            for (int i = 0; i < t.length(); i += 2) {
                if ((t.charAt(i) == 0 ? s.bitter : s.deep)[a] == t.charAt(i + 1)) right++;
            }
            if (right >= t.length() / 2 - 1) fit.add(a);
        }
        return fit;
    }

    public int cuts(boolean likely) {
        List<Integer> fit = fitting();
        if (!likely) return fit.stream().mapToInt(a -> 1 << a).sum();
        int best = -1;
        for (int a : fit) {
            if (best < 0 || Integer.bitCount(slight(a, 2)) > Integer.bitCount(slight(best, 2))) best = a;
        }
        return best;
    }

    public int ask() {
        List<Integer> fit = fitting();
        if (fit.size() < 2) return -1;
        int[] greatest = new int[2];
        for (int value = 0; value < 10; value++) {
            int v = value;
            greatest[0] = Math.max(greatest[0], (int) fit.stream().filter(a -> s.bitter[a] == v).count());
            greatest[1] = Math.max(greatest[1], (int) fit.stream().filter(a -> s.deep[a] == v).count());
        }
        return greatest[0] <= greatest[1] ? 0 : 1;
    }

    public int rota() {
        int n = s.families.size();
        if (n == 1) return -1;
        int calm = (int) IntStream.range(0, n).filter(f -> s.frozen().stream().noneMatch(g -> g.of(f))).count();
        return calm / 2 + calm % 2;
    }

    private static int[][] distances(State t, boolean oneWay, int without) {
        int n = t.families.size();
        int[][] d = new int[n][n];
        for (int[] row : d) java.util.Arrays.fill(row, 1000);
        for (Grudge g : t.frozen()) {
            if (g.number == without) continue;
            d[g.from][g.to] = 1;
            if (!oneWay) d[g.to][g.from] = 1;
        }
        if (!oneWay) for (int f = 0; f < n; f++) d[f][f] = 0;
        for (int k = 0; k < n; k++)
            for (int i = 0; i < n; i++)
                for (int j = 0; j < n; j++) d[i][j] = Math.min(d[i][j], d[i][k] + d[k][j]);
        return d;
    }

    public int steps(int f, int o) {
        fam(f);
        fam(o);
        int d = distances(s, false, -1)[f][o];
        return d < 1000 ? d : -1;
    }

    public boolean ring(int f) {
        fam(f);
        return distances(s, true, -1)[f][f] < 1000;
    }

    public int feud() {
        int most = 0;
        for (int[] row : distances(s, false, -1)) {
            most = Math.max(most, (int) IntStream.of(row).filter(d -> d < 1000).count());
        }
        return most;
    }

    public int between() {
        return bits(g -> distances(s, false, g.number)[g.from][g.to] >= 1000);
    }

    /** All ways, as rows of partners; the best one, of several the first one in the order of rows. */
    public int kisses(int f) {
        if (f != -1) fam(f);
        int n = s.families.size();
        int[] best = null;
        int most = -1;
        int[] row = new int[n];
        long ways = 1;
        for (int i = 0; i < n; i++) ways *= n + 1;
        ways:
        for (long way = 0; way < ways; way++) {
            long rest = way;
            for (int i = n - 1; i >= 0; i--) {
                row[i] = (int) (rest % (n + 1)) - 1;
                rest /= n + 1;
            }
            int sum = 0;
            for (int i = 0; i < n; i++) {
                if (row[i] < 0) continue;
                if (row[i] == i || row[row[i]] != i) continue ways;
                sum += s.families.get(i).pride;
                for (Grudge g : s.frozen()) if (g.joins(i, row[i])) continue ways;
            }
            if (sum > most) {
                most = sum;
                best = row.clone();
            }
        }
        return f == -1 ? most : best[f];
    }

    public int shares(int f, int n) {
        fam(f);
        in(n, 0, 999);
        int[] has = new int[s.families.size()];
        for (int i = 0; i < n; i++) {
            IntStream.range(0, has.length).filter(x -> has[x] < s.families.get(x).needs).boxed()
                    .min((a, b) -> has[a] != has[b] ? has[a] - has[b] : a - b).ifPresent(x -> has[x]++);
        }
        return has[f];
    }

    private int worth(int f, int of) {
        int holds = s.families.get(of).larder;
        int above = holds - 3 * s.families.get(f).needs;
        return above > 0 ? holds - 2 * above : holds;
    }

    public boolean swap(int f, int o) {
        fam(f);
        fam(o);
        if (f == o) throw new IllegalArgumentException();
        return worth(f, o) > worth(f, f) && worth(o, f) > worth(o, o);
    }

    public int rests(int g) {
        Grudge x = gru(g);
        if (x.thawed) return -1;
        int half = s.deep[x.slight] / 2;
        int[][] from = {{s.bitter[x.slight], -1}, {-s.families.get(x.from).pride, half}};
        int[][] to = {{2, -3}, {4, half}};
        int bits = 0;
        for (int i = 0; i < 2; i++)
            for (int j = 0; j < 2; j++)
                if (from[i][j] >= from[1 - i][j] && to[i][j] >= to[i][1 - j]) bits |= 1 << 2 * i + j;
        return bits;
    }

    public int odds(int n, int k) {
        in(n, 0, 6);
        in(k, 0, 6);
        BigInteger p = BigInteger.valueOf(s.kiss);
        BigInteger q = BigInteger.valueOf(100 - s.kiss);
        BigInteger good = BigInteger.ZERO;
        for (int way = 0; way < 1 << n; way++) {
            int kisses = Integer.bitCount(way);
            if (kisses >= k) good = good.add(p.pow(kisses).multiply(q.pow(n - kisses)));
        }
        return good.multiply(BigInteger.valueOf(10000)).divide(BigInteger.valueOf(100).pow(n)).intValue();
    }

    public int oldest() {
        return s.frozen().stream().max((a, b) -> a.age != b.age ? a.age - b.age : b.number - a.number)
                .map(g -> g.number).orElse(-1);
    }

    public int blue() {
        return bits(g -> g.ice > 99);
    }

    public int nursed() {
        return bits(g -> g.nursed);
    }

    public int mutual() {
        return bits(s::mutual);
    }

    public int proud() {
        return IntStream.range(0, s.families.size()).boxed()
                .max((a, b) -> fam(a).pride != fam(b).pride ? fam(a).pride - fam(b).pride : b - a).orElse(-1);
    }

    public int offs() {
        return IntStream.range(0, s.families.size()).filter(f -> fam(f).off > 0).map(f -> 1 << f).sum();
    }

    public int twins() {
        int twice = 0;
        for (Grudge g : s.frozen())
            for (Grudge h : s.frozen()) if (g != h && g.slight == h.slight && g.age == h.age) twice++;
        return twice / 2;
    }

    public int ahead(int g, int n) {
        gru(g);
        in(n, 0, 60);
        return ahead(n, false).grudges.get(g).ice;
    }

    public int larder(int f, int n) {
        fam(f);
        in(n, 0, 60);
        return ahead(n, false).families.get(f).larder;
    }

    public int trial(int n, boolean ice) {
        in(n, 0, 60);
        State t = ahead(n, true);
        return ice ? t.ice() : t.frozen().stream().mapToInt(g -> 1 << g.number).sum();
    }

    public int span(int n, boolean most) {
        in(n, 0, 60);
        int[] ice = new int[6];
        for (int seed = 1; seed <= 6; seed++) {
            State t = s.copy();
            t.seed = seed;
            for (int i = 0; i < n; i++) t.season(true);
            ice[seed - 1] = t.ice();
        }
        return most ? IntStream.of(ice).max().getAsInt() : IntStream.of(ice).min().getAsInt();
    }

    public int led(int g, boolean time) {
        gru(g);
        List<int[]> rows = s.log.stream().filter(r -> r[1] == g).toList();
        return time ? rows.isEmpty() ? -1 : rows.get(0)[0] : rows.size();
    }

    public int log(int ago, int what) {
        if (what < 0 || what > 3) throw new NoSuchElementException();
        return ago < 0 || ago >= s.log.size() ? -1 : s.log.get(ago)[what];
    }

    public int seed(int n) {
        int was = s.seed;
        s.seed = n;
        return was;
    }

    public boolean undo() {
        if (past.isEmpty()) return false;
        s = past.removeLast();
        return true;
    }

    public void image() {
        image = s.copy();
    }

    public boolean back() {
        if (image == null) return false;
        s = image.copy();
        past.clear();
        return true;
    }

    public int count(int what) {
        return switch (what) {
            case 0 -> s.families.size();
            case 1 -> bits(g -> true);
            case 2 -> s.texts;
            case 3 -> s.law == null ? -1 : s.law.size();
            case 4 -> s.time;
            case 5 -> s.store;
            case 6 -> s.propped ? 1 : 0;
            case 7 -> s.kiss;
            case 8 -> s.ice();
            case 9 -> s.families.stream().mapToInt(f -> f.larder).sum();
            case 10 -> s.log.size();
            case 11 -> past.size();
            default -> -1;
        };
    }
}
