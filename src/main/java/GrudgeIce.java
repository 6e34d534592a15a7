import java.util.NoSuchElementException;

/** A hot town that keeps its meat in the ice of its grudges. */
public final class GrudgeIce {
    public static final int NONE = -1;

    private static final int MOST_FAMILIES = 6;
    private static final int MOST_GRUDGES = 10;
    private static final int SLIGHTS = 8;
    private static final int SEASONS = 4;
    private static final int MOST_BYTES = 400;
    private static final int FED_BYTES = 20;
    private static final int MOST_TEXTS = 12;
    private static final int TOWN_LINES = 14;
    private static final int LAW_LINES = 12;
    private static final int MOST_DEEP = 6;
    private static final int MOST_ROWS = 60;
    private static final int ROW_CELLS = 4;
    private static final int MOST_ACTS = 12;
    private static final int MOST_AHEAD = 60;
    private static final int MOST_CUT_BYTES = 40;
    private static final int MOST_SPAN_SEED = 6;
    private static final int MOST_ODDS = 6;

    private static final int MOST_ICE = 999;
    private static final int MOST_LARDER = 999;
    private static final int MOST_STORE = 9999;
    private static final int MOST_TIME = 9999;
    private static final int MOST_AGE = 99;
    private static final int MOST_OFF = 99;
    private static final int MOST_TOLD = 999;
    private static final int FIRST_HEAT = 3;
    private static final int BLUE_ICE = 100;

    /* How a row of THE LOG came about. */
    private static final int BY_SEASON = 0;
    private static final int FORGIVEN = 1;
    private static final int SAWN = 2;
    private static final int STORED = 3;
    private static final int KISSED = 4;

    /* Things of a text: a number is its own code, a word is WORD and its place in WORDS, a sign is SIGN and its byte. */
    private static final String WORDS = "a b c d e f g h spring summer autumn winter grudge age ice pride bitter deep heat season nursed mutual propped freeze melt harden if not and or family needs larder slight over store kiss time ";
    private static final int END = -3;
    private static final int BAD = -2;
    private static final int WORD = 1000;
    private static final int LETTER_A = WORD;
    private static final int SPRING = WORD + 8;
    private static final int GRUDGE = WORD + 12;
    private static final int AGE = WORD + 13;
    private static final int ICE = WORD + 14;
    private static final int PRIDE = WORD + 15;
    private static final int BITTER = WORD + 16;
    private static final int DEEP = WORD + 17;
    private static final int HEAT = WORD + 18;
    private static final int SEASON = WORD + 19;
    private static final int NURSED = WORD + 20;
    private static final int MUTUAL = WORD + 21;
    private static final int PROPPED = WORD + 22;
    private static final int FREEZE = WORD + 23;
    private static final int MELT = WORD + 24;
    private static final int HARDEN = WORD + 25;
    private static final int IF = WORD + 26;
    private static final int NOT = WORD + 27;
    private static final int AND = WORD + 28;
    private static final int OR = WORD + 29;
    private static final int FAMILY = WORD + 30;
    private static final int NEEDS = WORD + 31;
    private static final int LARDER = WORD + 32;
    private static final int SLIGHT = WORD + 33;
    private static final int OVER = WORD + 34;
    private static final int STORE = WORD + 35;
    private static final int KISS = WORD + 36;
    private static final int TIME = WORD + 37;
    private static final int SIGN = 2000;
    private static final int LINE_END = SIGN + ';';
    private static final int OPEN = SIGN + '(';
    private static final int CLOSE = SIGN + ')';
    private static final int LESS = SIGN + '<';
    private static final int MORE = SIGN + '>';
    private static final int PLUS = SIGN + '+';

    private final Tape tape = new Tape();
    private final Text text = new Text();
    private final TownText townText = new TownText(text);
    private final LawText lawText = new LawText(text);
    private final Town now = new Town();
    private final Town spare = new Town();
    private final Law ruling = new Law();
    private final Law drafted = new Law();
    private final Past past = new Past();
    private final Web web = new Web();
    private final Town kept = new Town();
    private final Law keptLaw = new Law();
    private boolean anyKept = false;

    /** A town without families. */
    public GrudgeIce() {
    }

    public int feed(int a, int b, int c, int d, int e) {
        if (tape.length + FED_BYTES > MOST_BYTES) {
            return NONE;
        }
        tape.put(a);
        tape.put(b);
        tape.put(c);
        tape.put(d);
        tape.put(e);
        return tape.length;
    }

    public boolean end(int n) {
        if (n < 0 || n > tape.length) {
            return false;
        }
        tape.length = n;
        return true;
    }

    public int town() throws IllegalArgumentException, UnsupportedOperationException {
        text.read(tape);
        spare.copyFrom(now);
        townText.read(spare);
        if (now.texts >= MOST_TEXTS) {
            throw new UnsupportedOperationException("there are 12 texts");
        }
        spare.texts++;
        now.copyFrom(spare);
        past.forget();
        return now.texts;
    }

    public int law() throws IllegalArgumentException {
        text.read(tape);
        drafted.clear();
        lawText.read(drafted);
        ruling.copyFrom(drafted);
        past.forget();
        return ruling.lines;
    }

    public int fault() {
        return text.fault;
    }

    public int family(int family, int what) throws IndexOutOfBoundsException, NoSuchElementException {
        needFamily(family);
        switch (what) {
            case 0:
                return now.families.pride[family];
            case 1:
                return now.families.needs[family];
            case 2:
                return now.families.larder[family];
            case 3:
                return now.families.off[family];
            case 4:
                return now.grudges.iceOf(family);
            case 5:
                return now.families.lasts(family);
            case 6:
                return now.price(family);
            default:
                throw new NoSuchElementException("no such what");
        }
    }

    public int grudge(int grudge, int what) throws IndexOutOfBoundsException, NoSuchElementException {
        needGrudge(grudge);
        switch (what) {
            case 0:
                return now.grudges.from[grudge];
            case 1:
                return now.grudges.to[grudge];
            case 2:
                return now.grudges.slight[grudge];
            case 3:
                return now.grudges.age[grudge];
            case 4:
                return now.grudges.ice[grudge];
            case 5:
                return now.grudges.nursed[grudge] ? 1 : 0;
            case 6:
                return now.grudges.thawed[grudge] ? 1 : 0;
            case 7:
                return now.turnsBy(ruling, FREEZE, grudge);
            case 8:
                return now.turnsBy(ruling, MELT, grudge);
            case 9:
                return now.turnsBy(ruling, HARDEN, grudge);
            case 10:
                return now.grudges.hundredths(grudge);
            default:
                throw new NoSuchElementException("no such what");
        }
    }

    public int slight(int slight, int what) throws IndexOutOfBoundsException, NoSuchElementException {
        needSlight(slight);
        switch (what) {
            case 0:
                return now.bitter[slight];
            case 1:
                return now.deep[slight];
            case 2:
                return now.grudges.over(slight);
            default:
                throw new NoSuchElementException("no such what");
        }
    }

    public int heat(int season) throws IndexOutOfBoundsException {
        if (season < 0 || season >= SEASONS) {
            throw new IndexOutOfBoundsException("no such season");
        }
        return now.heat[season];
    }

    public int seasons(int n) throws IllegalArgumentException {
        needNumber(n, 1, MOST_AHEAD);
        past.keep(now);
        int thawed = 0;
        for (int i = 0; i < n; i++) {
            thawed += now.pass(ruling, true);
        }
        return thawed;
    }

    public int insult(int family, int other, int slight)
            throws IndexOutOfBoundsException, IllegalArgumentException, IllegalStateException {
        needFamily(family);
        needFamily(other);
        needSlight(slight);
        needTwo(family, other);
        int old = now.grudges.find(family, other);
        if (old == NONE && now.grudges.count >= MOST_GRUDGES) {
            throw new IllegalStateException("it would be an 11th grudge");
        }
        past.keep(now);
        int ice = 10 + now.bitter[slight];
        if (old == NONE) {
            return now.grudges.add(family, other, slight, ice);
        }
        now.grudges.offend(old, slight, ice);
        return old;
    }

    public int forgive(int grudge) throws IndexOutOfBoundsException, IllegalStateException {
        needGrudge(grudge);
        needFrozen(grudge);
        past.keep(now);
        now.grudges.thawed[grudge] = true;
        now.log.put(now.time, grudge, FORGIVEN, 0);
        return now.grudges.ice[grudge];
    }

    public boolean nurse(int grudge, boolean is) throws IndexOutOfBoundsException, IllegalStateException {
        needGrudge(grudge);
        needFrozen(grudge);
        past.keep(now);
        boolean changed = now.grudges.nursed[grudge] != is;
        now.grudges.nursed[grudge] = is;
        return changed;
    }

    public int saw(int grudge, int family, int n)
            throws IndexOutOfBoundsException, IllegalArgumentException, IllegalStateException {
        needGrudge(grudge);
        needFamily(family);
        needNumber(n, 1, MOST_TOLD);
        needFrozen(grudge);
        if (now.grudges.isOf(grudge, family)) {
            throw new IllegalStateException("it is a grudge of that family");
        }
        needIce(grudge, n);
        past.keep(now);
        now.lose(grudge, SAWN, n);
        now.families.fill(family, n);
        return now.grudges.ice[grudge];
    }

    public int store(int grudge, int n)
            throws IndexOutOfBoundsException, IllegalArgumentException, IllegalStateException {
        needGrudge(grudge);
        needNumber(n, 1, MOST_TOLD);
        needFrozen(grudge);
        needIce(grudge, n);
        past.keep(now);
        now.lose(grudge, STORED, n);
        now.store = Math.min(MOST_STORE, now.store + n);
        return now.store;
    }

    public int deliver(int family, int n)
            throws IndexOutOfBoundsException, IllegalArgumentException, IllegalStateException {
        needFamily(family);
        needNumber(n, 1, MOST_TOLD);
        if (now.store < n) {
            throw new IllegalStateException("there is less in the store");
        }
        past.keep(now);
        now.store -= n;
        now.families.fill(family, n);
        return now.families.larder[family];
    }

    public boolean prop(boolean is) {
        past.keep(now);
        boolean changed = now.propped != is;
        now.propped = is;
        return changed;
    }

    public int cold() {
        return now.grudges.allIce() + now.store;
    }

    public int stock() {
        spare.copyFrom(now);
        for (int n = 0; n <= MOST_AHEAD; n++) {
            if (spare.store == 0) {
                return n;
            }
            spare.leak();
            spare.tick();
        }
        return NONE;
    }

    public int scarce() {
        int scarcest = NONE;
        int least = MOST_AHEAD + 1;
        for (int f = 0; f < now.families.count; f++) {
            int n = now.families.lasts(f);
            if (n != NONE && n < least) {
                least = n;
                scarcest = f;
            }
        }
        return scarcest;
    }

    public int hot() {
        spare.copyFrom(now);
        for (int n = 1; n <= MOST_AHEAD; n++) {
            if (spare.turnAll(ruling) > 0) {
                return n;
            }
            spare.tick();
        }
        return NONE;
    }

    public int keeps() {
        // What can be delivered at the most is what the set that misses most leaves (the least cut).
        int most = 0;
        int all = (1 << now.families.count) - 1;
        for (int set = 0; set <= all; set++) {
            most = Math.max(most, now.missed(set));
        }
        return now.families.wantTogether(all) - most;
    }

    public int tight() {
        int tightest = 0;
        for (int set = 0; set < 1 << now.families.count; set++) {
            if (Integer.bitCount(set) > Integer.bitCount(tightest) && now.missed(set) > 0) {
                tightest = set;
            }
        }
        return tightest;
    }

    public int misses(int families) {
        return now.missed(families);
    }

    public int thaw(int x) throws IllegalArgumentException {
        needNumber(x, 0, MOST_TOLD);
        return web.bestThaw(now, x);
    }

    public int friends() {
        web.spin(now, 0);
        return web.strangers();
    }

    public int camps(boolean many) {
        int best = 0;
        int fewest = now.grudges.within(0);
        for (int camp = 2; camp < 1 << now.families.count; camp += 2) {
            int within = now.grudges.within(camp);
            if (within < fewest) {
                fewest = within;
                best = camp;
            }
        }
        return many ? fewest : best;
    }

    public int cuts(boolean likely) throws IllegalArgumentException {
        int bytes = tape.use();
        needCuts(bytes);
        int fits = now.fitting(tape, bytes);
        return likely ? now.likeliest(fits) : fits;
    }

    public int ask() throws IllegalArgumentException {
        int bytes = tape.use();
        needCuts(bytes);
        int fits = now.fitting(tape, bytes);
        if (Integer.bitCount(fits) < 2) {
            return NONE;
        }
        return greatestPart(now.deep, fits) < greatestPart(now.bitter, fits) ? 1 : 0;
    }

    public int rota() {
        if (now.families.count == 1) {
            return NONE;
        }
        int calm = 0;
        for (int f = 0; f < now.families.count; f++) {
            if (!now.grudges.quarrels(f)) {
                calm++;
            }
        }
        return (calm + 1) / 2;
    }

    public int steps(int family, int other) throws IndexOutOfBoundsException {
        needFamily(family);
        needFamily(other);
        web.spin(now, 0);
        return web.distance(family, other);
    }

    public boolean ring(int family) throws IndexOutOfBoundsException {
        needFamily(family);
        web.spin(now, 0);
        return web.comesBack(family);
    }

    public int feud() {
        web.spin(now, 0);
        return web.greatestFeud();
    }

    public int between() {
        int bits = 0;
        for (int g = 0; g < now.grudges.count; g++) {
            if (now.grudges.frozen(g)) {
                web.spin(now, 1 << g);
                if (web.distance(now.grudges.from[g], now.grudges.to[g]) == NONE) {
                    bits |= 1 << g;
                }
            }
        }
        return bits;
    }

    public int kisses(int family) throws IndexOutOfBoundsException {
        if (family != NONE) {
            needFamily(family);
        }
        web.spin(now, 0);
        web.findPairs(now.families);
        return family == NONE ? web.most : web.best[family];
    }

    public int shares(int family, int n) throws IndexOutOfBoundsException, IllegalArgumentException {
        needFamily(family);
        needNumber(n, 0, MOST_TOLD);
        return now.families.shareOut(family, n);
    }

    public boolean swap(int family, int other) throws IndexOutOfBoundsException, IllegalArgumentException {
        needFamily(family);
        needFamily(other);
        needTwo(family, other);
        return now.families.likes(family, other) && now.families.likes(other, family);
    }

    public int rests(int grudge) throws IndexOutOfBoundsException {
        needGrudge(grudge);
        if (!now.grudges.frozen(grudge)) {
            return NONE;
        }
        return now.restsOf(grudge);
    }

    public int odds(int n, int k) throws IllegalArgumentException {
        needNumber(n, 0, MOST_ODDS);
        needNumber(k, 0, MOST_ODDS);
        long whole = power(100, n);
        if (whole <= 0) {
            return 0;
        }
        long good = 0;
        long ways = 1;
        for (int kisses = 0; kisses <= n; kisses++) {
            if (kisses >= k) {
                good += ways * power(now.kiss, kisses) * power(100 - now.kiss, n - kisses);
            }
            ways = ways * (n - kisses) / (kisses + 1);
        }
        return (int) (good * 10000 / whole);
    }

    public int oldest() {
        int old = NONE;
        for (int g = 0; g < now.grudges.count; g++) {
            if (now.grudges.frozen(g) && (old == NONE || now.grudges.age[g] > cell(now.grudges.age, old))) {
                old = g;
            }
        }
        return old;
    }

    public int blue() {
        int bits = 0;
        for (int g = 0; g < now.grudges.count; g++) {
            if (now.grudges.frozen(g) && now.grudges.ice[g] >= BLUE_ICE) {
                bits |= 1 << g;
            }
        }
        return bits;
    }

    public int nursed() {
        int bits = 0;
        for (int g = 0; g < now.grudges.count; g++) {
            if (now.grudges.frozen(g) && now.grudges.nursed[g]) {
                bits |= 1 << g;
            }
        }
        return bits;
    }

    public int mutual() {
        int bits = 0;
        for (int g = 0; g < now.grudges.count; g++) {
            if (now.grudges.frozen(g) && now.grudges.find(now.grudges.to[g], now.grudges.from[g]) != NONE) {
                bits |= 1 << g;
            }
        }
        return bits;
    }

    public int proud() {
        int proudest = NONE;
        for (int f = 0; f < now.families.count; f++) {
            if (proudest == NONE || now.families.pride[f] > cell(now.families.pride, proudest)) {
                proudest = f;
            }
        }
        return proudest;
    }

    public int offs() {
        int bits = 0;
        for (int f = 0; f < now.families.count; f++) {
            if (now.families.off[f] > 0) {
                bits |= 1 << f;
            }
        }
        return bits;
    }

    public int twins() {
        int pairs = 0;
        for (int g = 0; g < now.grudges.count; g++) {
            for (int h = 0; h < g; h++) {
                if (now.grudges.alike(g, h)) {
                    pairs++;
                }
            }
        }
        return pairs;
    }

    public int ahead(int grudge, int n) throws IndexOutOfBoundsException, IllegalArgumentException {
        needGrudge(grudge);
        needNumber(n, 0, MOST_AHEAD);
        spare.copyFrom(now);
        for (int i = 0; i < n; i++) {
            spare.pass(ruling, false);
        }
        return spare.grudges.ice[grudge];
    }

    public int larder(int family, int n) throws IndexOutOfBoundsException, IllegalArgumentException {
        needFamily(family);
        needNumber(n, 0, MOST_AHEAD);
        spare.copyFrom(now);
        for (int i = 0; i < n; i++) {
            spare.families.eat();
        }
        return spare.families.larder[family];
    }

    public int trial(int n, boolean ice) throws IllegalArgumentException {
        needNumber(n, 0, MOST_AHEAD);
        runTrial(now.seed, n);
        return ice ? spare.grudges.allIce() : spare.grudges.frozenOnes();
    }

    public int span(int n, boolean most) throws IllegalArgumentException {
        needNumber(n, 0, MOST_AHEAD);
        int edge = NONE;
        for (int seed = 1; seed <= MOST_SPAN_SEED; seed++) {
            runTrial(seed, n);
            int ice = spare.grudges.allIce();
            if (edge == NONE || (most ? ice > edge : ice < edge)) {
                edge = ice;
            }
        }
        return edge;
    }

    public int led(int grudge, boolean time) throws IndexOutOfBoundsException {
        needGrudge(grudge);
        return time ? now.log.latestTime(grudge) : now.log.rowsOf(grudge);
    }

    public int log(int ago, int what) throws NoSuchElementException {
        if (what < 0 || what >= ROW_CELLS) {
            throw new NoSuchElementException("no such what");
        }
        return now.log.read(ago, what);
    }

    public int seed(int n) {
        int old = now.seed;
        now.seed = n;
        return old;
    }

    public boolean undo() {
        return past.takeBack(now);
    }

    public void image() {
        kept.copyFrom(now);
        keptLaw.copyFrom(ruling);
        anyKept = true;
    }

    public boolean back() {
        if (!anyKept) {
            return false;
        }
        now.copyFrom(kept);
        ruling.copyFrom(keptLaw);
        past.forget();
        return true;
    }

    public int count(int what) {
        switch (what) {
            case 0:
                return now.families.count;
            case 1:
                return now.grudges.frozenOnes();
            case 2:
                return now.texts;
            case 3:
                return ruling.lines;
            case 4:
                return now.time;
            case 5:
                return now.store;
            case 6:
                return now.propped ? 1 : 0;
            case 7:
                return now.kiss;
            case 8:
                return now.grudges.allIce();
            case 9:
                return now.families.allLarders();
            case 10:
                return now.log.count;
            case 11:
                return past.count;
            default:
                return NONE;
        }
    }

    private void needFamily(int family) {
        if (family < 0 || family >= now.families.count) {
            throw new IndexOutOfBoundsException("no such family");
        }
    }

    private void needGrudge(int grudge) {
        if (grudge < 0 || grudge >= now.grudges.count) {
            throw new IndexOutOfBoundsException("no such grudge");
        }
    }

    private void needSlight(int slight) {
        if (slight < 0 || slight >= SLIGHTS) {
            throw new IndexOutOfBoundsException("no such slight");
        }
    }

    private void needNumber(int n, int least, int most) {
        if (n < least || n > most) {
            throw new IllegalArgumentException("a number that is none");
        }
    }

    private void needTwo(int family, int other) {
        if (family == other) {
            throw new IllegalArgumentException("both are one");
        }
    }

    private void needFrozen(int grudge) {
        if (!now.grudges.frozen(grudge)) {
            throw new IllegalStateException("it is thawed");
        }
    }

    private void needIce(int grudge, int n) {
        if (cell(now.grudges.ice, grudge) < n) {
            throw new IllegalStateException("it has less ice");
        }
    }

    private void needCuts(int bytes) {
        if (bytes > MOST_CUT_BYTES || bytes % 2 != 0) {
            throw new IllegalArgumentException("not rows of cuts");
        }
        for (int i = 0; i < bytes; i++) {
            if (tape.byteAt(i) > (i % 2 == 0 ? 1 : 9)) {
                throw new IllegalArgumentException("no such cut");
            }
        }
    }

    /* The spare town is this one, n SEASONS with draws later. */
    private void runTrial(int seed, int n) {
        spare.copyFrom(now);
        spare.seed = seed;
        for (int i = 0; i < n; i++) {
            spare.pass(ruling, true);
        }
    }

    /* How many of the SLIGHTS in the set are alike by a measure, at the most. */
    private static int greatestPart(int[] measure, int set) {
        int greatest = 0;
        for (int value = 0; value <= 9; value++) {
            int part = 0;
            for (int s = 0; s < SLIGHTS; s++) {
                if (has(set, s) && cell(measure, s) == value) {
                    part++;
                }
            }
            greatest = Math.max(greatest, part);
        }
        return greatest;
    }

    private static long power(long base, int n) {
        long product = 1;
        for (int i = 0; i < n; i++) {
            product *= base;
        }
        return product;
    }

    private static boolean has(int set, int bit) {
        return (set >> bit & 1) != 0;
    }

    private static int cell(int[] row, int place) {
        return place >= 0 && place < row.length ? row[place] : 0;
    }

    private static void write(int[] row, int place, int value) {
        if (place >= 0 && place < row.length) {
            row[place] = value;
        }
    }

    private static void copy(int[] from, int[] to) {
        System.arraycopy(from, 0, to, 0, Math.min(from.length, to.length));
    }

    /** The bytes that are fed, till a call uses them up. */
    private static final class Tape {
        final int[] bytes = new int[MOST_BYTES];
        int length = 0;

        void put(int number) {
            for (int shift = 24; shift >= 0; shift -= 8) {
                if (length < bytes.length) {
                    bytes[length] = number >>> shift & 255;
                    length++;
                }
            }
        }

        /* Used up: how many bytes it had; these stay to be read till the next feed. */
        int use() {
            int had = length;
            length = 0;
            return had;
        }

        int byteAt(int place) {
            return cell(bytes, place);
        }
    }

    /** A text, cut into things: numbers, words and signs. */
    private static final class Text {
        private static final int BLANK = 0;
        private static final int LETTER = 1;
        private static final int DIGIT = 2;
        private static final int OTHER = 3;

        final int[] codes = new int[MOST_BYTES + 1];
        final int[] begins = new int[MOST_BYTES + 1];
        final int[] ends = new int[MOST_BYTES + 1];
        int count = 0;
        int next = 0;
        /* The next thing, and where it begins. */
        int code = END;
        int begin = 0;
        int fault = NONE;

        /* Uses the TAPE up. */
        void read(Tape tape) {
            int size = tape.use();
            fault = NONE;
            cut(tape, size);
            for (int i = 0; i < count; i++) {
                codes[i] = codeOf(tape, begins[i], ends[i]);
            }
            write(codes, count, END);
            write(begins, count, size);
            next = NONE;
            step();
        }

        private void cut(Tape tape, int size) {
            count = 0;
            int before = BLANK;
            for (int at = 0; at < size; at++) {
                int kind = kindOf(tape.byteAt(at));
                boolean goesOn = kind == before && kind != OTHER;
                if (kind != BLANK && !goesOn && count < MOST_BYTES) {
                    begins[count] = at;
                    count++;
                }
                if (kind != BLANK) {
                    write(ends, count - 1, at + 1);
                }
                before = kind;
            }
        }

        private static int kindOf(int sign) {
            if (sign == ' ') {
                return BLANK;
            }
            if (sign >= 'a' && sign <= 'z') {
                return LETTER;
            }
            return sign >= '0' && sign <= '9' ? DIGIT : OTHER;
        }

        private static int codeOf(Tape tape, int begin, int end) {
            int kind = kindOf(tape.byteAt(begin));
            if (kind == OTHER) {
                return SIGN + tape.byteAt(begin);
            }
            return kind == DIGIT ? numberOf(tape, begin, end) : wordOf(tape, begin, end);
        }

        private static int numberOf(Tape tape, int begin, int end) {
            if (end - begin > 3) {
                return BAD;
            }
            int number = 0;
            for (int at = begin; at < end; at++) {
                number = number * 10 + tape.byteAt(at) - '0';
            }
            return number;
        }

        private static int wordOf(Tape tape, int begin, int end) {
            int word = WORD;
            int at = begin;
            boolean fits = true;
            for (int i = 0; i < WORDS.length(); i++) {
                char letter = WORDS.charAt(i);
                if (letter != ' ') {
                    fits = fits && at < end && tape.byteAt(at) == letter;
                    at++;
                } else if (fits && at == end) {
                    return word;
                } else {
                    word++;
                    at = begin;
                    fits = true;
                }
            }
            return BAD;
        }

        private void step() {
            if (next < count) {
                next++;
            }
            if (next >= 0 && next < codes.length) {
                code = codes[next];
                begin = begins[next];
            }
        }

        boolean is(int which) {
            return code == which;
        }

        boolean take(int which) {
            if (code != which) {
                return false;
            }
            step();
            return true;
        }

        void need(int which) {
            if (!take(which)) {
                wrong();
            }
        }

        /* Which one of so many codes from the first one on it is. */
        int among(int first, int many) {
            int which = code - first;
            if (which < 0 || which >= many) {
                wrong();
            }
            step();
            return which;
        }

        int number(int most) {
            return among(0, most + 1);
        }

        /* It is wrong at the next thing. */
        void wrong() {
            fault = begin;
            throw new IllegalArgumentException("a wrong text");
        }
    }

    /** Reads a text of THE TOWN. */
    private static final class TownText {
        final Text text;

        TownText(Text text) {
            this.text = text;
        }

        void read(Town town) {
            if (text.is(END)) {
                return;
            }
            for (int lines = 0; lines < TOWN_LINES; lines++) {
                readLine(town);
                if (text.is(END)) {
                    return;
                }
                text.need(LINE_END);
            }
            text.wrong();
        }

        private void readLine(Town town) {
            if (text.is(FAMILY)) {
                readFamily(town);
            } else if (text.take(SLIGHT)) {
                readSlight(town);
            } else if (text.is(GRUDGE)) {
                readGrudge(town);
            } else if (text.take(HEAT)) {
                int season = text.among(SPRING, SEASONS);
                write(town.heat, season, text.number(20));
            } else if (text.take(STORE)) {
                town.store = text.number(MOST_TOLD);
            } else if (text.take(KISS)) {
                town.kiss = text.number(100);
            } else if (text.take(TIME)) {
                town.time = text.number(MOST_TOLD);
            } else {
                text.need(PROPPED);
                town.propped = true;
            }
        }

        private void readFamily(Town town) {
            if (town.families.count >= MOST_FAMILIES) {
                text.wrong();
            }
            text.need(FAMILY);
            text.need(PRIDE);
            int pride = text.number(9);
            text.need(NEEDS);
            int needs = text.number(99);
            int larder = text.take(LARDER) ? text.number(MOST_LARDER) : 0;
            town.families.add(pride, needs, larder);
        }

        private void readSlight(Town town) {
            int slight = text.among(LETTER_A, SLIGHTS);
            text.need(BITTER);
            int bitter = text.number(9);
            text.need(DEEP);
            int deep = text.number(9);
            write(town.bitter, slight, bitter);
            write(town.deep, slight, deep);
        }

        private void readGrudge(Town town) {
            if (town.grudges.count >= MOST_GRUDGES) {
                text.wrong();
            }
            text.need(GRUDGE);
            int from = text.number(town.families.count - 1);
            if (text.is(from)) {
                text.wrong();
            }
            int to = text.number(town.families.count - 1);
            text.need(OVER);
            int slight = text.among(LETTER_A, SLIGHTS);
            text.need(ICE);
            int grudge = town.grudges.add(from, to, slight, text.number(MOST_ICE));
            if (text.take(AGE)) {
                write(town.grudges.age, grudge, text.number(MOST_AGE));
            }
            if (text.take(NURSED)) {
                town.grudges.makeNursed(grudge);
            }
        }
    }

    /** Reads THE LAW, its conditions into codes of which each comes behind what it is about. */
    private static final class LawText {
        final Text text;

        LawText(Text text) {
            this.text = text;
        }

        void read(Law law) {
            law.lines = 0;
            if (text.is(END)) {
                return;
            }
            for (int lines = 0; lines < LAW_LINES; lines++) {
                readLine(law);
                if (text.is(END)) {
                    return;
                }
                text.need(LINE_END);
            }
            text.wrong();
        }

        private void readLine(Law law) {
            int kind = FREEZE + text.among(FREEZE, 3);
            int amount = text.number(100);
            int begin = law.used;
            if (text.take(IF)) {
                readCondition(law, 0);
            }
            law.addLine(kind, amount, begin);
        }

        /* An "or" is put down when its right side is whole, behind all its "and"s. */
        private void readCondition(Law law, int deep) {
            readAtom(law, deep);
            boolean or = false;
            for (int i = 0; i < MOST_BYTES; i++) {
                if (text.take(AND)) {
                    readAtom(law, deep);
                    law.put(AND);
                } else if (text.take(OR)) {
                    if (or) {
                        law.put(OR);
                    }
                    or = true;
                    readAtom(law, deep);
                } else {
                    break;
                }
            }
            if (or) {
                law.put(OR);
            }
        }

        /* Each "not" makes what stands behind it one deeper. */
        private void readAtom(Law law, int deep) {
            int inner = deep;
            while (inner < MOST_DEEP && text.take(NOT)) {
                inner++;
            }
            if (inner >= MOST_DEEP && (text.is(NOT) || text.is(OPEN))) {
                text.wrong();
            }
            if (text.take(OPEN)) {
                readCondition(law, inner + 1);
                text.need(CLOSE);
            } else if (text.is(NURSED) || text.is(MUTUAL) || text.is(PROPPED)) {
                law.put(NURSED + text.among(NURSED, 3));
            } else {
                readSum(law);
                int than = text.take(MORE) ? MORE : LESS;
                if (than == LESS) {
                    text.need(LESS);
                }
                readSum(law);
                law.put(than);
            }
            for (int nots = deep; nots < inner; nots++) {
                law.put(NOT);
            }
        }

        private void readSum(Law law) {
            for (int parts = 0; parts < MOST_BYTES; parts++) {
                boolean told = text.is(GRUDGE) || text.is(AGE) || text.is(ICE) || text.is(PRIDE)
                        || text.is(BITTER) || text.is(DEEP) || text.is(HEAT) || text.is(SEASON);
                law.put(told ? GRUDGE + text.among(GRUDGE, 8) : text.among(0, MOST_TOLD + 1));
                if (parts > 0) {
                    law.put(PLUS);
                }
                if (!text.take(PLUS)) {
                    return;
                }
            }
        }
    }

    /** What freezes, melts and hardens. */
    private static final class Law {
        private static final int MOST_OPEN = 32;

        final int[] kinds = new int[LAW_LINES];
        final int[] amounts = new int[LAW_LINES];
        final int[] begins = new int[LAW_LINES];
        final int[] ends = new int[LAW_LINES];
        final int[] codes = new int[MOST_BYTES];
        /* Of the GRUDGE that is asked about: the values of the words from GRUDGE to PROPPED. */
        final int[] values = new int[PROPPED - GRUDGE + 1];
        final int[] open = new int[MOST_OPEN];
        int lines = NONE;
        int used = 0;

        void clear() {
            lines = NONE;
            used = 0;
        }

        void copyFrom(Law other) {
            copy(other.kinds, kinds);
            copy(other.amounts, amounts);
            copy(other.begins, begins);
            copy(other.ends, ends);
            copy(other.codes, codes);
            lines = other.lines;
            used = other.used;
        }

        void put(int code) {
            if (used < codes.length) {
                codes[used] = code;
                used++;
            }
        }

        void addLine(int kind, int amount, int begin) {
            if (lines >= 0 && lines < LAW_LINES) {
                kinds[lines] = kind;
                amounts[lines] = amount;
                begins[lines] = begin;
                ends[lines] = used;
                lines++;
            }
        }

        /* N of all LINES of a kind that hold by the values, together. */
        int sum(int kind) {
            int sum = 0;
            for (int line = 0; line < lines && line < LAW_LINES; line++) {
                if (kinds[line] == kind && holds(begins[line], ends[line])) {
                    sum += amounts[line];
                }
            }
            return sum;
        }

        private boolean holds(int begin, int end) {
            int top = 0;
            for (int i = begin; i < end; i++) {
                int code = cell(codes, i);
                if (code == NOT) {
                    write(open, top - 1, 1 - cell(open, top - 1));
                } else if (code == AND || code == OR || code >= SIGN) {
                    top--;
                    write(open, top - 1, joined(code, cell(open, top - 1), cell(open, top)));
                } else {
                    write(open, top, code < WORD ? code : cell(values, code - GRUDGE));
                    top++;
                }
            }
            return top <= 0 || cell(open, top - 1) != 0;
        }

        private static int joined(int code, int a, int b) {
            switch (code) {
                case AND:
                    return a & b;
                case OR:
                    return a | b;
                case LESS:
                    return a < b ? 1 : 0;
                case MORE:
                    return a > b ? 1 : 0;
                default:
                    return a + b;
            }
        }
    }

    /** The families, by numbers. */
    private static final class Families {
        final int[] pride = new int[MOST_FAMILIES];
        final int[] needs = new int[MOST_FAMILIES];
        final int[] larder = new int[MOST_FAMILIES];
        final int[] off = new int[MOST_FAMILIES];
        final int[] shared = new int[MOST_FAMILIES];
        int count = 0;

        void copyFrom(Families other) {
            copy(other.pride, pride);
            copy(other.needs, needs);
            copy(other.larder, larder);
            copy(other.off, off);
            count = other.count;
        }

        void add(int itsPride, int itsNeeds, int itsLarder) {
            if (count < MOST_FAMILIES) {
                pride[count] = itsPride;
                needs[count] = itsNeeds;
                larder[count] = itsLarder;
                off[count] = 0;
                count++;
            }
        }

        /* A SEASON: each has its NEEDS, or too little. */
        void eat() {
            for (int f = 0; f < count; f++) {
                if (larder[f] >= needs[f]) {
                    larder[f] -= needs[f];
                } else {
                    larder[f] = 0;
                    off[f] = Math.min(MOST_OFF, off[f] + 1);
                }
            }
        }

        void fill(int family, int n) {
            write(larder, family, Math.min(MOST_LARDER, cell(larder, family) + n));
        }

        /* By how many SEASONS it will have had too little. */
        int lasts(int family) {
            int eaten = cell(needs, family);
            if (eaten <= 0 || cell(off, family) >= MOST_OFF) {
                return NONE;
            }
            int n = cell(larder, family) / eaten + 1;
            return n <= MOST_AHEAD ? n : NONE;
        }

        int wantTogether(int set) {
            int sum = 0;
            for (int f = 0; f < count; f++) {
                if (has(set, f)) {
                    sum += Math.max(0, needs[f] - larder[f]);
                }
            }
            return sum;
        }

        int shareOut(int family, int n) {
            for (int f = 0; f < count; f++) {
                shared[f] = 0;
            }
            for (int i = 0; i < n; i++) {
                int next = NONE;
                for (int f = 0; f < count; f++) {
                    if (shared[f] < needs[f] && (next == NONE || shared[f] < cell(shared, next))) {
                        next = f;
                    }
                }
                write(shared, next, cell(shared, next) + 1);
            }
            return cell(shared, family);
        }

        /* Whether the other one's LARDER is worth more to it than its own. */
        boolean likes(int family, int other) {
            return worth(family, cell(larder, other)) > worth(family, cell(larder, family));
        }

        private int worth(int family, int held) {
            return held - 2 * Math.max(0, held - 3 * cell(needs, family));
        }

        int allLarders() {
            int sum = 0;
            for (int f = 0; f < count; f++) {
                sum += larder[f];
            }
            return sum;
        }
    }

    /** The grudges, by numbers; those that are THAWED keep theirs. */
    private static final class Grudges {
        final int[] from = new int[MOST_GRUDGES];
        final int[] to = new int[MOST_GRUDGES];
        final int[] slight = new int[MOST_GRUDGES];
        final int[] age = new int[MOST_GRUDGES];
        final int[] ice = new int[MOST_GRUDGES];
        final boolean[] nursed = new boolean[MOST_GRUDGES];
        final boolean[] thawed = new boolean[MOST_GRUDGES];
        int count = 0;

        void copyFrom(Grudges other) {
            copy(other.from, from);
            copy(other.to, to);
            copy(other.slight, slight);
            copy(other.age, age);
            copy(other.ice, ice);
            for (int g = 0; g < MOST_GRUDGES; g++) {
                nursed[g] = other.nursed[g];
                thawed[g] = other.thawed[g];
            }
            count = other.count;
        }

        int add(int family, int other, int over, int itsIce) {
            if (count >= MOST_GRUDGES) {
                return NONE;
            }
            from[count] = family;
            to[count] = other;
            slight[count] = over;
            age[count] = 0;
            ice[count] = itsIce;
            nursed[count] = false;
            thawed[count] = false;
            count++;
            return count - 1;
        }

        void offend(int grudge, int over, int more) {
            write(slight, grudge, over);
            write(ice, grudge, Math.min(MOST_ICE, cell(ice, grudge) + more));
        }

        void makeNursed(int grudge) {
            if (grudge >= 0 && grudge < count) {
                nursed[grudge] = true;
            }
        }

        boolean frozen(int grudge) {
            return grudge >= 0 && grudge < count && !thawed[grudge];
        }

        int frozenOnes() {
            int bits = 0;
            for (int g = 0; g < count; g++) {
                if (!thawed[g]) {
                    bits |= 1 << g;
                }
            }
            return bits;
        }

        /* The least frozen one from a family to another one. */
        int find(int family, int other) {
            for (int g = 0; g < count; g++) {
                if (!thawed[g] && from[g] == family && to[g] == other) {
                    return g;
                }
            }
            return NONE;
        }

        boolean isOf(int grudge, int family) {
            return cell(from, grudge) == family || cell(to, grudge) == family;
        }

        boolean quarrels(int family) {
            for (int g = 0; g < count; g++) {
                if (!thawed[g] && isOf(g, family)) {
                    return true;
                }
            }
            return false;
        }

        int allIce() {
            int sum = 0;
            for (int g = 0; g < count; g++) {
                if (!thawed[g]) {
                    sum += ice[g];
                }
            }
            return sum;
        }

        int iceOf(int family) {
            int sum = 0;
            for (int g = 0; g < count; g++) {
                if (!thawed[g] && isOf(g, family)) {
                    sum += ice[g];
                }
            }
            return sum;
        }

        /* ICE of those of which some family of the set may have some. */
        int iceFor(int set) {
            int sum = 0;
            for (int g = 0; g < count; g++) {
                int others = set & ~(1 << from[g] | 1 << to[g]);
                if (!thawed[g] && others != 0) {
                    sum += ice[g];
                }
            }
            return sum;
        }

        int hundredths(int grudge) {
            int all = allIce();
            return all > 0 && frozen(grudge) ? cell(ice, grudge) * 100 / all : 0;
        }

        int over(int which) {
            int bits = 0;
            for (int g = 0; g < count; g++) {
                if (!thawed[g] && slight[g] == which) {
                    bits |= 1 << g;
                }
            }
            return bits;
        }

        boolean alike(int g, int h) {
            return frozen(g) && frozen(h) && cell(slight, g) == cell(slight, h) && cell(age, g) == cell(age, h);
        }

        /* How many are within the camp, or within the rest. */
        int within(int camp) {
            int many = 0;
            for (int g = 0; g < count; g++) {
                if (!thawed[g] && has(camp, from[g]) == has(camp, to[g])) {
                    many++;
                }
            }
            return many;
        }
    }

    /** THE LOG: the latest rows, one behind another in a round. */
    private static final class Log {
        final int[] cells = new int[MOST_ROWS * ROW_CELLS];
        int count = 0;
        int next = 0;

        void copyFrom(Log other) {
            copy(other.cells, cells);
            count = other.count;
            next = other.next;
        }

        void put(int time, int grudge, int how, int ice) {
            int at = next * ROW_CELLS;
            write(cells, at, time);
            write(cells, at + 1, grudge);
            write(cells, at + 2, how);
            write(cells, at + 3, ice);
            next = (next + 1) % MOST_ROWS;
            count = Math.min(MOST_ROWS, count + 1);
        }

        int read(int ago, int what) {
            if (ago < 0 || ago >= count) {
                return NONE;
            }
            int row = (next + MOST_ROWS - 1 - ago) % MOST_ROWS;
            return cell(cells, row * ROW_CELLS + what);
        }

        int rowsOf(int grudge) {
            int rows = 0;
            for (int ago = 0; ago < count; ago++) {
                if (read(ago, 1) == grudge) {
                    rows++;
                }
            }
            return rows;
        }

        int latestTime(int grudge) {
            for (int ago = 0; ago < count; ago++) {
                if (read(ago, 1) == grudge) {
                    return read(ago, 0);
                }
            }
            return NONE;
        }
    }

    /** All that an act can change. */
    private static final class Town {
        final Families families = new Families();
        final Grudges grudges = new Grudges();
        final Log log = new Log();
        final int[] bitter = new int[SLIGHTS];
        final int[] deep = new int[SLIGHTS];
        final int[] heat = new int[SEASONS];
        int texts = 0;
        int time = 0;
        int store = 0;
        boolean propped = false;
        int kiss = 0;
        int seed = 1;

        Town() {
            for (int season = 0; season < SEASONS; season++) {
                heat[season] = FIRST_HEAT;
            }
        }

        void copyFrom(Town other) {
            families.copyFrom(other.families);
            grudges.copyFrom(other.grudges);
            log.copyFrom(other.log);
            copy(other.bitter, bitter);
            copy(other.deep, deep);
            copy(other.heat, heat);
            texts = other.texts;
            time = other.time;
            store = other.store;
            propped = other.propped;
            kiss = other.kiss;
            seed = other.seed;
        }

        int heatNow() {
            return cell(heat, time % SEASONS);
        }

        /* A SEASON more, with draws or without: how many were THAWED. */
        int pass(Law law, boolean draws) {
            int thawed = turnAll(law);
            families.eat();
            leak();
            if (draws) {
                kissByDraw();
            }
            tick();
            return thawed;
        }

        /* Each freezes first; what it melts by is told by the ice that it has then. */
        int turnAll(Law law) {
            int thawed = 0;
            for (int g = 0; g < grudges.count; g++) {
                if (!grudges.frozen(g)) {
                    continue;
                }
                tell(law, g);
                grudges.ice[g] = Math.min(MOST_ICE, grudges.ice[g] + amountBy(law, FREEZE, g));
                write(law.values, ICE - GRUDGE, grudges.ice[g]);
                int melted = Math.max(0, amountBy(law, MELT, g) - amountBy(law, HARDEN, g));
                grudges.ice[g] = Math.max(0, grudges.ice[g] - melted);
                grudges.age[g] = Math.min(MOST_AGE, grudges.age[g] + 1);
                if (grudges.ice[g] == 0) {
                    grudges.thawed[g] = true;
                    log.put(time, g, BY_SEASON, 0);
                    thawed++;
                }
            }
            return thawed;
        }

        /* What a GRUDGE freezes, melts or hardens by now. */
        int turnsBy(Law law, int kind, int g) {
            tell(law, g);
            return amountBy(law, kind, g);
        }

        /* The same, by the values that the law was told last. */
        private int amountBy(Law law, int kind, int g) {
            int first = kind == MELT ? heatNow() : 0;
            if (law.lines != NONE) {
                return first + law.sum(kind);
            }
            if (kind != FREEZE || g < 0 || g >= MOST_GRUDGES) {
                return first;
            }
            return cell(bitter, grudges.slight[g]) + (grudges.nursed[g] ? 5 : 0);
        }

        private void tell(Law law, int g) {
            if (law.lines == NONE || g < 0 || g >= MOST_GRUDGES) {
                return;
            }
            int[] values = law.values;
            write(values, 0, g);
            write(values, AGE - GRUDGE, grudges.age[g]);
            write(values, ICE - GRUDGE, grudges.ice[g]);
            write(values, PRIDE - GRUDGE, cell(families.pride, grudges.from[g]));
            write(values, BITTER - GRUDGE, cell(bitter, grudges.slight[g]));
            write(values, DEEP - GRUDGE, cell(deep, grudges.slight[g]));
            write(values, HEAT - GRUDGE, heatNow());
            write(values, SEASON - GRUDGE, time % SEASONS);
            write(values, NURSED - GRUDGE, grudges.nursed[g] ? 1 : 0);
            write(values, MUTUAL - GRUDGE, grudges.find(grudges.to[g], grudges.from[g]) != NONE ? 1 : 0);
            write(values, PROPPED - GRUDGE, propped ? 1 : 0);
        }

        void leak() {
            store = Math.max(0, store - heatNow() * (propped ? 5 : 1));
        }

        private void kissByDraw() {
            if (draw() % 100 >= kiss) {
                return;
            }
            int many = Integer.bitCount(grudges.frozenOnes());
            if (many == 0) {
                return;
            }
            int place = draw() % many;
            for (int g = 0; g < grudges.count; g++) {
                if (grudges.frozen(g)) {
                    if (place == 0) {
                        lose(g, KISSED, (cell(grudges.ice, g) + 1) / 2);
                        return;
                    }
                    place--;
                }
            }
        }

        private int draw() {
            seed = 1103515245 * seed + 12345;
            return seed >>> 16 & 32767;
        }

        void tick() {
            time = Math.min(MOST_TIME, time + 1);
        }

        void lose(int grudge, int how, int n) {
            write(grudges.ice, grudge, cell(grudges.ice, grudge) - n);
            log.put(time, grudge, how, n);
        }

        int price(int family) {
            int worth = grudges.iceOf(family) / 10 + cell(families.pride, family);
            return Math.max(0, worth - cell(families.off, family));
        }

        int missed(int set) {
            int told = set & (1 << families.count) - 1;
            return Math.max(0, families.wantTogether(told) - grudges.iceFor(told));
        }

        /* SLIGHTS by which at most one row of the cuts is wrong. */
        int fitting(Tape tape, int bytes) {
            int bits = 0;
            for (int s = 0; s < SLIGHTS; s++) {
                int wrong = 0;
                for (int i = 0; i + 1 < bytes; i += 2) {
                    int due = tape.byteAt(i) == 0 ? bitter[s] : deep[s];
                    if (tape.byteAt(i + 1) != due) {
                        wrong++;
                    }
                }
                if (wrong <= 1) {
                    bits |= 1 << s;
                }
            }
            return bits;
        }

        int likeliest(int set) {
            int likeliest = NONE;
            int most = NONE;
            for (int s = 0; s < SLIGHTS; s++) {
                int many = Integer.bitCount(grudges.over(s));
                if (has(set, s) && many > most) {
                    most = many;
                    likeliest = s;
                }
            }
            return likeliest;
        }

        /* The choices, 2 times FROM's and TO's, from which neither would have more by its other one. */
        int restsOf(int grudge) {
            int bits = 0;
            for (int choice = 0; choice < 4; choice++) {
                boolean fromStays = fromHas(grudge, choice) >= fromHas(grudge, choice ^ 2);
                boolean toStays = toHas(grudge, choice) >= toHas(grudge, choice ^ 1);
                if (fromStays && toStays) {
                    bits |= 1 << choice;
                }
            }
            return bits;
        }

        private int fromHas(int grudge, int choice) {
            int slight = cell(grudges.slight, grudge);
            switch (choice) {
                case 0:
                    return cell(bitter, slight);
                case 1:
                    return -1;
                case 2:
                    return -cell(families.pride, cell(grudges.from, grudge));
                default:
                    return cell(deep, slight) / 2;
            }
        }

        private int toHas(int grudge, int choice) {
            switch (choice) {
                case 0:
                    return 2;
                case 1:
                    return -3;
                case 2:
                    return 4;
                default:
                    return cell(deep, cell(grudges.slight, grudge)) / 2;
            }
        }
    }

    /** The latest acts: the town as it was ahead of each, in a round. */
    private static final class Past {
        final Town[] towns = new Town[MOST_ACTS];
        int count = 0;
        int next = 0;

        Past() {
            for (int i = 0; i < MOST_ACTS; i++) {
                towns[i] = new Town();
            }
        }

        void keep(Town town) {
            if (next >= 0 && next < MOST_ACTS) {
                towns[next].copyFrom(town);
            }
            next = (next + 1) % MOST_ACTS;
            count = Math.min(MOST_ACTS, count + 1);
        }

        boolean takeBack(Town into) {
            if (count <= 0) {
                return false;
            }
            next = (next + MOST_ACTS - 1) % MOST_ACTS;
            count--;
            if (next >= 0) {
                into.copyFrom(towns[next]);
            }
            return true;
        }

        void forget() {
            count = 0;
        }
    }

    /** Who has a grudge with whom, as bits of families. */
    private static final class Web {
        private static final int MOST_PAIRS = 15;

        final int[] near = new int[MOST_FAMILIES];
        final int[] onward = new int[MOST_FAMILIES];
        final int[] with = new int[MOST_FAMILIES];
        final int[] best = new int[MOST_FAMILIES];
        final int[] pairs = new int[MOST_GRUDGES];
        int families = 0;
        int most = 0;

        /* Made of the GRUDGES of a town without some of them. */
        void spin(Town town, int without) {
            families = town.families.count;
            for (int f = 0; f < MOST_FAMILIES; f++) {
                near[f] = 0;
                onward[f] = 0;
            }
            for (int g = 0; g < town.grudges.count; g++) {
                if (town.grudges.frozen(g) && !has(without, g)) {
                    int from = town.grudges.from[g];
                    int to = town.grudges.to[g];
                    write(onward, from, cell(onward, from) | 1 << to);
                    write(near, from, cell(near, from) | 1 << to);
                    write(near, to, cell(near, to) | 1 << from);
                }
            }
        }

        /* The set, and those a step from it. */
        private int wider(int[] links, int set) {
            int all = set;
            for (int f = 0; f < families; f++) {
                if (has(set, f)) {
                    all |= links[f];
                }
            }
            return all;
        }

        private int whole(int[] links, int set) {
            int all = set;
            for (int n = 0; n < families; n++) {
                all = wider(links, all);
            }
            return all;
        }

        int distance(int family, int other) {
            int set = 1 << family;
            for (int n = 0; n < families; n++) {
                if (has(set, other)) {
                    return n;
                }
                set = wider(near, set);
            }
            return NONE;
        }

        boolean comesBack(int family) {
            return has(whole(onward, cell(onward, family)), family);
        }

        int greatestFeud() {
            int greatest = 0;
            for (int f = 0; f < families; f++) {
                greatest = Math.max(greatest, Integer.bitCount(whole(near, 1 << f)));
            }
            return greatest;
        }

        /* Pairs of families without a GRUDGE between them. */
        int strangers() {
            int linked = 0;
            for (int f = 0; f < families; f++) {
                linked += Integer.bitCount(near[f]);
            }
            return (families * (families - 1) - linked) / 2;
        }

        int bestThaw(Town town, int least) {
            tellPairs(town.grudges);
            int frozen = town.grudges.frozenOnes();
            int bestSet = NONE;
            int fewestLinked = MOST_PAIRS + 1;
            for (int set = 0; set <= frozen; set++) {
                if ((set & ~frozen) == 0) {
                    int linked = linkedWithout(town.grudges, set, least);
                    boolean fewer = Integer.bitCount(set) < Integer.bitCount(bestSet);
                    if (linked < fewestLinked || linked == fewestLinked && fewer && bestSet != NONE) {
                        fewestLinked = linked;
                        bestSet = set;
                    }
                }
            }
            return bestSet;
        }

        /* Of each GRUDGE the bit of its two families; none of one that is THAWED. */
        private void tellPairs(Grudges grudges) {
            for (int g = 0; g < MOST_GRUDGES; g++) {
                int more = Math.max(grudges.from[g], grudges.to[g]);
                int less = Math.min(grudges.from[g], grudges.to[g]);
                pairs[g] = grudges.frozen(g) ? 1 << more * (more - 1) / 2 + less : 0;
            }
        }

        /* How many pairs have a GRUDGE without those of the set; more than there can be, if too little ice is left. */
        private int linkedWithout(Grudges grudges, int set, int least) {
            int ice = 0;
            int linked = 0;
            for (int g = 0; g < MOST_GRUDGES; g++) {
                if (pairs[g] != 0 && !has(set, g)) {
                    ice += grudges.ice[g];
                    linked |= pairs[g];
                }
            }
            return ice >= least ? Integer.bitCount(linked) : MOST_PAIRS + 1;
        }

        void findPairs(Families all) {
            most = NONE;
            for (int f = 0; f < MOST_FAMILIES; f++) {
                with[f] = NONE;
            }
            pair(this, all, 0, 0);
        }

        /* All ways for the families from this one on, the first ones first; only a better one is kept. */
        private static void pair(Web web, Families all, int family, int pride) {
            if (family < 0 || family >= web.families || family >= MOST_FAMILIES) {
                if (pride > web.most) {
                    web.most = pride;
                    copy(web.with, web.best);
                }
                return;
            }
            pair(web, all, family + 1, pride);
            if (web.with[family] != NONE) {
                return;
            }
            for (int other = family + 1; other < web.families && other < MOST_FAMILIES; other++) {
                if (web.with[other] == NONE && !has(web.near[family], other)) {
                    web.with[family] = other;
                    web.with[other] = family;
                    pair(web, all, family + 1, pride + all.pride[family] + all.pride[other]);
                    web.with[family] = NONE;
                    web.with[other] = NONE;
                }
            }
        }
    }
}
