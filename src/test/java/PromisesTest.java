import java.util.NoSuchElementException;
import java.util.Set;
import java.util.TreeSet;

/** Promise by promise: the first and the last value that holds, the first that does not, the empty and the full one. */
public final class PromisesTest extends Checks {
    private static final int NONE = GrudgeIce.NONE;
    private static final int LEAST = Integer.MIN_VALUE;
    private static final int MOST = Integer.MAX_VALUE;
    private static final String THREE = "family pride 1 needs 2 larder 4;family pride 5 needs 6;family pride 9 needs 0 larder 999";
    private static final String GRUDGES = "grudge 0 1 over a ice 10;grudge 1 0 over h ice 999 age 99 nursed;grudge 1 2 over a ice 0";
    private static final String COLD = "heat spring 0;heat summer 0;heat autumn 0;heat winter 0";
    private static final Set<Integer> TOLD = new TreeSet<>();

    private PromisesTest() {
    }

    private static void promise(int number, String words) {
        TOLD.add(number);
        sentence(words);
    }

    private static GrudgeIce three() {
        return of(THREE, GRUDGES);
    }

    private static GrudgeIce nothing() {
        return new GrudgeIce();
    }

    private static void made() {
        promise(1, "`GrudgeIce()`: A town without families.");
        due("families", nothing().count(0), 0);
        due("each is made anew", of(THREE).count(0) + nothing().count(0), 3);
        GrudgeIce x = nothing();
        town(x, THREE);
        due("of no other one", nothing().count(0) + nothing().count(2), 0);
        for (int what = 0; what <= 11; what++) due("count " + what, nothing().count(what), what == 3 ? NONE : 0);
        due("shut", nothing().prop(false), false);
        due("nobody is proud", nothing().proud(), NONE);

        promise(2, "how many it has; NONE, and none come, if it would have more than 400.");
        GrudgeIce fed = nothing();
        for (int n = 1; n <= 20; n++) due("fed", fed.feed(n, n, n, n, n), n * 20);
        for (int n = 0; n < 3; n++) due("no more", fed.feed(0, 0, 0, 0, 0), NONE);
        due("400", fed.end(400), true);
        fed.end(381);
        due("401 would be one too many", fed.feed(0, 0, 0, 0, 0), NONE);
        due("381 still", fed.end(381) && !fed.end(382), true);
        fed.end(380);
        due("400 again", fed.feed(LEAST, MOST, -1, 0, 1), 400);

        promise(3, "The TAPE has its first n bytes alone: true; false, and nothing happens, if it has fewer, or n is below 0.");
        due("401", fed.end(401), false);
        due("-1", fed.end(-1), false);
        due("the least number", fed.end(LEAST), false);
        due("the most", fed.end(MOST), false);
        due("nothing happened", fed.end(400), true);
        due("0", fed.end(0), true);
        due("none has 1", fed.end(1), false);
        due("none has 0", fed.end(0), true);
    }

    private static void texts() {
        promise(4, "a text of THE TOWN: how many texts there are.");
        GrudgeIce x = nothing();
        for (int n = 1; n <= 12; n++) due("texts", town(x, n % 3 == 0 ? "" : "store " + n), n);
        throwsThat("a 13th one", UnsupportedOperationException.class, () -> town(x, ""));
        noNumber("a wrong 13th one", () -> town(x, ";"));
        GrudgeIce wrong = nothing();
        noNumber("a wrong one", () -> town(wrong, "store"));
        due("the wrong one is none", town(wrong, "store 1"), 1);

        promise(5, "Uses the TAPE up: THE LAW: how many LINES.");
        for (int n = 0; n <= 12; n++) due("lines", law(nothing(), times(n, "melt 0")), n);
        noNumber("a 13th one", () -> law(nothing(), times(13, "melt 0")));
        GrudgeIce used = nothing();
        law(used, "melt 1");
        due("the tape is used up", used.end(1), false);
        due("an empty tape has no line", used.law(), 0);
        noNumber("a town is no law", () -> law(nothing(), THREE));

        promise(6, "The first wrong byte of the latest text that was read; NONE without one, and ahead of any.");
        GrudgeIce y = nothing();
        due("ahead of any", y.fault(), NONE);
        noNumber("wrong at 0", () -> law(y, "!melt 1"));
        due("0", y.fault(), 0);
        law(y, "");
        due("without one", y.fault(), NONE);
        noNumber("wrong at 399", () -> town(y, " ".repeat(399) + "x"));
        due("399", y.fault(), 399);
        noNumber("more must come", () -> law(y, "melt 1;" + " ".repeat(393)));
        due("400", y.fault(), 400);
        y.seasons(1);
        y.image();
        y.back();
        due("of the latest still", y.fault(), 400);
        town(y, "");
        due("without one", y.fault(), NONE);
    }

    private static void parts() {
        promise(7, "Of a family what 0 PRIDE, 1 NEEDS, 2 LARDER, 3 OFF, 4 GIVES, 5 LASTS (NONE), 6 PRICE. NoSuchElementException: another what.");
        int[][] families = {{1, 2, 4, 0, 1009, 3, 101}, {5, 6, 0, 0, 1009, 1, 105}, {9, 0, 999, 0, 0, NONE, 9}};
        for (int f = 0; f < 3; f++) {
            for (int what = 0; what < 7; what++) due("family " + f + " what " + what, three().family(f, what), families[f][what]);
        }
        GrudgeIce x = three();
        x.seasons(1);
        due("off", x.family(1, 3), 1);
        due("price by it", x.family(1, 6), x.family(1, 4) / 10 + 4);
        for (int what : new int[] {-1, 7, LEAST, MOST}) noWhat("family what " + what, () -> x.family(2, what));
        for (int f : new int[] {-1, 3, LEAST, MOST}) noSuch("family " + f, () -> x.family(f, 0));

        promise(8, "7, 8, 9 what it FREEZES, MELTS, HARDENS by now (as if it was not THAWED), 10 SHARE (0, if it is THAWED).");
        int[][] grudges = {{0, 1, 0, 0, 10, 0, 0, 0, 3, 0, 0}, {1, 0, 7, 99, 999, 1, 0, 5, 3, 0, 99}, {1, 2, 0, 0, 0, 0, 0, 0, 3, 0, 0}};
        for (int g = 0; g < 3; g++) {
            for (int what = 0; what < 11; what++) due("grudge " + g + " what " + what, three().grudge(g, what), grudges[g][what]);
        }
        GrudgeIce y = three();
        y.forgive(1);
        due("thawed", y.grudge(1, 6), 1);
        due("as if it was not", y.grudge(1, 7) * 10 + y.grudge(1, 8), 53);
        due("no share", y.grudge(1, 10), 0);
        due("all is the other one's", y.grudge(0, 10), 100);
        law(y, "freeze 1 if nursed;harden 9 if age > 98;melt 2 if mutual");
        due("by the law", y.grudge(1, 7) * 100 + y.grudge(1, 8) * 10 + y.grudge(1, 9), 159);
        due("not mutual with a thawed one", y.grudge(0, 8), 3);
        for (int what : new int[] {-1, 11, LEAST, MOST}) noWhat("grudge what " + what, () -> y.grudge(1, what));
        for (int g : new int[] {-1, 3, LEAST, MOST}) noSuch("grudge " + g, () -> y.grudge(g, 0));

        promise(9, "Of a SLIGHT what 0 BITTER, 1 DEEP, 2 those OVER it, as bits. NoSuchElementException: another what.");
        GrudgeIce z = of(THREE, "slight a bitter 9 deep 1;slight h bitter 2 deep 8", GRUDGES);
        int[] first = {9, 1, 5};
        int[] last = {2, 8, 2};
        for (int what = 0; what < 3; what++) {
            due("a what " + what, z.slight(0, what), first[what]);
            due("h what " + what, z.slight(7, what), last[what]);
            due("b what " + what, z.slight(1, what), 0);
        }
        for (int what : new int[] {-1, 3, LEAST, MOST}) noWhat("slight what " + what, () -> z.slight(7, what));
        for (int s : new int[] {-1, 8, LEAST, MOST}) noSuch("slight " + s, () -> z.slight(s, 0));

        promise(10, "HEAT of a SEASON.");
        GrudgeIce heat = of("heat spring 0;heat summer 1;heat autumn 19;heat winter 20");
        int[] due = {0, 1, 19, 20};
        for (int q = 0; q < 4; q++) due("heat of " + q, heat.heat(q), due[q]);
        for (int q : new int[] {-1, 4, LEAST, MOST}) noSuch("season " + q, () -> heat.heat(q));
    }

    private static void acts() {
        promise(11, "So many SEASONS more (1 to 60): how many GRUDGES were THAWED in these. IllegalArgumentException: they are none.");
        due("1", three().seasons(1), 1);
        due("60", three().seasons(60), 2);
        for (int n : new int[] {0, -1, 61, LEAST, MOST}) noNumber("seasons " + n, () -> three().seasons(n));

        promise(12, "An insult of the first one to the other one over a SLIGHT: the GRUDGE. IllegalArgumentException: both are one; "
                + "IllegalStateException: it would be an 11th one.");
        due("one that is there", three().insult(0, 1, 7), 0);
        due("the next", three().insult(2, 0, 0), 3);
        noNumber("both are one", () -> three().insult(2, 2, 0));
        GrudgeIce nine = of(THREE, times(9, "grudge 0 1 over a ice 1"));
        due("the tenth", nine.insult(2, 1, 0), 9);
        cannot("an 11th", () -> nine.insult(1, 2, 0));
        due("that is no act", nine.count(11), 1);
        for (int f : new int[] {-1, 3, LEAST, MOST}) {
            noSuch("by " + f, () -> three().insult(f, 0, 0));
            noSuch("of " + f, () -> three().insult(0, f, 0));
        }
        for (int s : new int[] {-1, 8, LEAST, MOST}) noSuch("over " + s, () -> three().insult(0, 1, s));

        promise(13, "Forgiven: the ICE that it had. IllegalStateException: it is THAWED.");
        GrudgeIce x = three();
        due("10", x.forgive(0), 10);
        due("999", x.forgive(1), 999);
        due("0", x.forgive(2), 0);
        for (int g = 0; g < 3; g++) {
            int grudge = g;
            cannot("again", () -> x.forgive(grudge));
        }
        for (int g : new int[] {-1, 3, LEAST, MOST}) noSuch("forgive " + g, () -> three().forgive(g));

        promise(14, "NURSED, or not: whether that changed. IllegalStateException: it is THAWED.");
        GrudgeIce y = three();
        due("nursed", y.nurse(0, true), true);
        due("nursed already", y.nurse(1, true), false);
        due("not nursed", y.nurse(1, false), true);
        due("not nursed already", y.nurse(2, false), false);
        due("so they are", y.nursed(), 1);
        y.forgive(0);
        cannot("a thawed one", () -> y.nurse(0, true));
        cannot("a thawed one", () -> y.nurse(0, false));
        for (int g : new int[] {-1, 3, LEAST, MOST}) noSuch("nurse " + g, () -> three().nurse(g, true));
    }

    private static void moves() {
        promise(15, "Sawn for a family: its ICE then. IllegalArgumentException: n is none (1 to 999); IllegalStateException: it is THAWED, is FROM "
                + "or TO that family, or has less ICE.");
        due("1", three().saw(0, 2, 1), 9);
        due("all", three().saw(0, 2, 10), 0);
        due("999", three().saw(1, 2, 999), 0);
        cannot("less ice", () -> three().saw(0, 2, 11));
        cannot("no ice", () -> three().saw(2, 0, 1));
        cannot("FROM", () -> three().saw(0, 0, 1));
        cannot("TO", () -> three().saw(0, 1, 1));
        GrudgeIce x = three();
        x.forgive(0);
        cannot("thawed", () -> x.saw(0, 2, 1));
        for (int n : new int[] {0, -1, 1000, LEAST, MOST}) noNumber("n " + n, () -> three().saw(1, 2, n));
        for (int n : new int[] {-1, 3, LEAST, MOST}) {
            noSuch("grudge " + n, () -> three().saw(n, 2, 1));
            noSuch("family " + n, () -> three().saw(0, n, 1));
        }

        promise(16, "ICE is stored: STORE then. IllegalArgumentException: n is none (1 to 999); IllegalStateException: it is THAWED, or has less ICE.");
        due("1", three().store(0, 1), 1);
        due("all", three().store(0, 10), 10);
        due("999", three().store(1, 999), 999);
        cannot("less ice", () -> three().store(0, 11));
        cannot("no ice", () -> three().store(2, 1));
        cannot("thawed", () -> x.store(0, 1));
        for (int n : new int[] {0, -1, 1000, LEAST, MOST}) noNumber("n " + n, () -> three().store(1, n));
        for (int g : new int[] {-1, 3, LEAST, MOST}) noSuch("store " + g, () -> three().store(g, 1));

        promise(17, "ICE is delivered from STORE: LARDER then (999 at most). IllegalArgumentException: n is none (1 to 999); "
                + "IllegalStateException: there is less.");
        due("1", stored().deliver(0, 1), 5);
        due("all", stored().deliver(0, 998), 999);
        due("all", stored().deliver(1, 998), 998);
        due("to a full one", stored().deliver(2, 1), 999);
        cannot("there is less", () -> stored().deliver(0, 999));
        cannot("there is none", () -> three().deliver(0, 1));
        for (int n : new int[] {0, -1, 1000, LEAST, MOST}) noNumber("n " + n, () -> stored().deliver(1, n));
        for (int f : new int[] {-1, 3, LEAST, MOST}) noSuch("deliver " + f, () -> stored().deliver(f, 1));

        promise(18, "The DOOR is PROPPED, or shut: whether that changed.");
        GrudgeIce door = nothing();
        due("shut already", door.prop(false), false);
        due("propped", door.prop(true), true);
        due("propped already", door.prop(true), false);
        due("shut", door.prop(false), true);
    }

    private static GrudgeIce stored() {
        return of(THREE, "store 998");
    }

    private static void stocks() {
        promise(19, "`int cold()`: COLD.");
        due("none", nothing().cold(), 0);
        due("ice", three().cold(), 1009);
        due("store, too", of(THREE, GRUDGES, "store 1").cold(), 1010);
        GrudgeIce all = of(THREE, times(10, "grudge 0 1 over a ice 999"), "store 999");
        due("all", all.cold(), 10989);
        all.store(9, 999);
        due("it stays in the town", all.cold(), 10989);

        promise(20, "STOCK; NONE.");
        due("0 now", nothing().stock(), 0);
        due("1", of("store 3").stock(), 1);
        due("60", of("store 180").stock(), 60);
        due("none", of("store 181").stock(), NONE);

        promise(21, "SHORT; NONE.");
        due("none", nothing().scarce(), NONE);
        due("the least", three().scarce(), 1);
        due("none", of("family pride 1 needs 0").scarce(), NONE);

        promise(22, "HOT; NONE.");
        due("none", nothing().hot(), NONE);
        due("1", three().hot(), 1);
        due("60", of(THREE, "grudge 0 1 over a ice 180").hot(), 60);
        due("none", of(THREE, "grudge 0 1 over a ice 181").hot(), NONE);

        promise(23, "`int keeps()`: KEEPS.");
        due("none", nothing().keeps(), 0);
        due("0 wants none, 1 and 2 may have none", three().keeps(), 0);
        due("all that is wanted", of("family pride 1 needs 1", "family pride 1 needs 1;family pride 1 needs 9", "grudge 0 1 over a ice 9").keeps(), 9);

        promise(24, "TIGHT, as bits.");
        due("none", nothing().tight(), 0);
        due("1, and 0 with it", three().tight(), 3);
        due("only 1 wants", of("family pride 1 needs 0;family pride 1 needs 1;family pride 1 needs 0", "grudge 0 2 over a ice 1").tight(), 0);

        promise(25, "MISSES of a set (others than families count for nothing).");
        due("none", nothing().misses(MOST), 0);
        due("of none", three().misses(0), 0);
        due("of others", three().misses(8), 0);
        due("of 1", three().misses(2), 6);
        due("of 1, and others", three().misses(2 | LEAST), 6);
        due("of all", three().misses(NONE), 0 * 6 + Math.max(0, 6 - 1009));
        due("of 0", three().misses(1), 0);
    }

    private static void thaws() {
        promise(26, "THAW, as bits; NONE. IllegalArgumentException: X is none.");
        due("0", three().thaw(0), 7);
        due("1", three().thaw(1), 4);
        due("999", three().thaw(999), 4);
        due("none", nothing().thaw(1), NONE);
        due("of none", nothing().thaw(0), 0);
        for (int n : new int[] {-1, 1000, LEAST, MOST}) noNumber("x " + n, () -> three().thaw(n));

        promise(27, "`int friends()`: FRIENDS.");
        due("none", nothing().friends(), 0);
        due("0 and 2", three().friends(), 1);
        due("15", of(times(6, "family pride 1 needs 1")).friends(), 15);

        promise(28, "CAMPS: the second camp, as bits (many false), or how many GRUDGES.");
        due("none", nothing().camps(false), 0);
        due("none within", nothing().camps(true), 0);
        due("1 against 0 and 2", three().camps(false), 2);
        due("none within", three().camps(true), 0);
        GrudgeIce ring = of(THREE, "grudge 0 1 over a ice 1;grudge 1 2 over a ice 1;grudge 2 0 over a ice 1");
        due("of several the least", ring.camps(false), 2);
        due("one within", ring.camps(true), 1);
    }

    private static int cuts(boolean likely, int... bytes) {
        GrudgeIce x = of(THREE, "slight b bitter 1 deep 9;slight c bitter 9 deep 1", "grudge 0 1 over c ice 9;grudge 0 1 over c ice 9");
        load(x, bytes);
        return x.cuts(likely);
    }

    private static int ask(int... bytes) {
        GrudgeIce x = of("slight b bitter 1 deep 9;slight c bitter 9 deep 1;slight d bitter 9 deep 3");
        load(x, bytes);
        return x.ask();
    }

    private static void load(GrudgeIce x, int... bytes) {
        byte[] row = new byte[bytes.length];
        for (int i = 0; i < bytes.length; i++) row[i] = (byte) bytes[i];
        tape(x, row);
    }

    private static void cutting() {
        promise(29, "CUTS (of each two bytes: what was cut, how much; at most 40 bytes): SLIGHTS, as bits (likely false), or LIKELY; NONE.");
        due("none may be told", cuts(false), 255);
        due("none may be told", cuts(true), 2);
        due("one row may be wrong", cuts(false, 0, 5), 255);
        due("two rows", cuts(false, 0, 9, 1, 1), 4);
        due("one of two", cuts(false, 0, 9, 1, 9), 6);
        due("likely", cuts(true, 0, 9, 1, 9), 2);
        due("none fits", cuts(false, 0, 5, 0, 5), 0);
        due("none is likely", cuts(true, 0, 5, 0, 5), NONE);
        due("40 bytes", cuts(false, new int[40]), 249);
        int[][] wrong = {{0}, {0, 1, 0}, {2, 0}, {0, 10}, {255, 1}, {1, 255}, new int[41], new int[42], new int[400]};
        for (int[] row : wrong) {
            noNumber("not that", () -> cuts(false, row));
            noNumber("not that", () -> cuts(true, row));
        }

        promise(30, "Uses the TAPE up: ASK (the TAPE likewise); NONE. IllegalArgumentException: the TAPE is not that.");
        due("none may be told: parts of 5 and of 5", ask(), 0);
        due("bitter 9 alike: deep parts them", ask(0, 9, 0, 9), 1);
        due("one fits", ask(1, 3, 1, 3), NONE);
        due("none fits", ask(1, 5, 1, 5), NONE);
        due("two at least", ask(new int[40]), 0);
        for (int[] row : wrong) noNumber("not that", () -> ask(row));
    }

    private static void webs() {
        promise(31, "ROTA (0 without families); NONE.");
        due("without families", nothing().rota(), 0);
        due("one", of("family pride 1 needs 1").rota(), NONE);
        due("two", of("family pride 1 needs 1;family pride 1 needs 1").rota(), 1);
        due("all have one", three().rota(), 0);
        due("six", of(times(6, "family pride 1 needs 1")).rota(), 3);

        promise(32, "STEPS (0 to itself); NONE.");
        due("to itself", three().steps(2, 2), 0);
        due("1", three().steps(2, 1), 1);
        due("2", three().steps(0, 2), 2);
        due("none", of(THREE).steps(0, 2), NONE);
        for (int f : new int[] {-1, 3, LEAST, MOST}) {
            noSuch("from " + f, () -> three().steps(f, 0));
            noSuch("to " + f, () -> three().steps(0, f));
        }

        promise(33, "`boolean ring(int family) throws IndexOutOfBoundsException`: RING.");
        due("there and back", three().ring(0), true);
        due("there and back", three().ring(1), true);
        due("there alone", three().ring(2), false);
        for (int f : new int[] {-1, 3, LEAST, MOST}) noSuch("ring " + f, () -> three().ring(f));

        promise(34, "FEUD (1 of families without GRUDGES, 0 without families).");
        due("without families", nothing().feud(), 0);
        due("without grudges", of(THREE).feud(), 1);
        due("one without", of("family pride 1 needs 1").feud(), 1);
        due("all", three().feud(), 3);

        promise(35, "BETWEEN, as bits.");
        due("none", nothing().between(), 0);
        due("the last", three().between(), 4);
        GrudgeIce x = three();
        x.forgive(1);
        due("both that are left", x.between(), 5);

        promise(36, "KISSES: how much (family NONE), or with whom one is; NONE.");
        due("none", nothing().kisses(NONE), 0);
        due("0 and 2", three().kisses(NONE), 10);
        due("0 with 2", three().kisses(0), 2);
        due("1 with none", three().kisses(1), NONE);
        due("2 with 0", three().kisses(2), 0);
        for (int f : new int[] {-2, 3, LEAST, MOST}) noSuch("kisses " + f, () -> three().kisses(f));
        noSuch("without families", () -> nothing().kisses(0));
    }

    private static void choices() {
        promise(37, "SHARES. IllegalArgumentException: N is none.");
        int[][] rows = {{0, 0, 0, 0}, {1, 1, 0, 0}, {2, 1, 1, 0}, {3, 2, 1, 0}, {4, 2, 2, 0}, {8, 2, 6, 0}, {9, 2, 6, 0}, {999, 2, 6, 0}};
        for (int[] row : rows) {
            for (int f = 0; f < 3; f++) due(row[0] + " for " + f, three().shares(f, row[0]), row[f + 1]);
        }
        for (int n : new int[] {-1, 1000, LEAST, MOST}) noNumber("n " + n, () -> three().shares(0, n));
        for (int f : new int[] {-1, 3, LEAST, MOST}) noSuch("family " + f, () -> three().shares(f, 0));

        promise(38, "SWAP. IllegalArgumentException: both are one.");
        due("4 of needs 2 for 0 of needs 6", three().swap(0, 1), false);
        due("0 of needs 6 for 999 of needs 0", three().swap(1, 2), false);
        GrudgeIce x = of("family pride 1 needs 6;family pride 1 needs 0 larder 18");
        due("18 of needs 6 are 18", x.swap(0, 1), true);
        due("also told the other way", x.swap(1, 0), true);
        for (int f = 0; f < 3; f++) {
            int family = f;
            noNumber("both are one", () -> three().swap(family, family));
        }
        for (int f : new int[] {-1, 3, LEAST, MOST}) {
            noSuch("of " + f, () -> three().swap(f, 0));
            noSuch("with " + f, () -> three().swap(0, f));
        }

        promise(39, "RESTS, as bits; NONE.");
        sentence("nursing an insult FROM has BITTER, TO 2; nursing a kiss FROM has less 1, TO less 3; forgiving an insult FROM has less PRIDE, TO 4; "
                + "forgiving a kiss each has DEEP by 2, rounded down: choices (2 times FROM's and TO's) from which neither would have more by its "
                + "other one:");
        int[][] rests = {{0, 0, 0, 5}, {0, 1, 0, 1}, {1, 0, 0, 1}, {0, 0, 7, 5}, {0, 0, 8, 13}, {1, 1, 7, 1}, {1, 1, 8, 9}, {9, 9, 9, 9}};
        for (int[] row : rests) {
            GrudgeIce y = of("family pride " + row[0] + " needs 1;family pride 9 needs 1", "slight a bitter " + row[1] + " deep " + row[2],
                    "grudge 0 1 over a ice 1");
            due("pride " + row[0] + " bitter " + row[1] + " deep " + row[2], y.rests(0), row[3]);
            y.forgive(0);
            due("thawed", y.rests(0), NONE);
        }
        for (int g : new int[] {-1, 3, LEAST, MOST}) noSuch("rests " + g, () -> three().rests(g));

        promise(40, "ODDS. IllegalArgumentException: N or K are none.");
        due("0 of 0", nothing().odds(0, 0), 10000);
        due("1 of 0", of("kiss 100").odds(0, 1), 0);
        due("6 of 6", of("kiss 100").odds(6, 6), 10000);
        due("1 of 6", of("kiss 1").odds(6, 1), 585);
        due("0 of 6", nothing().odds(6, 0), 10000);
        for (int n : new int[] {-1, 7, LEAST, MOST}) {
            noNumber("n " + n, () -> nothing().odds(n, 0));
            noNumber("k " + n, () -> nothing().odds(0, n));
        }
    }

    private static void lists() {
        promise(41, "OLDEST; NONE.");
        due("none", nothing().oldest(), NONE);
        due("age 99", three().oldest(), 1);
        due("age 0", of(THREE, "grudge 0 1 over a ice 1").oldest(), 0);

        promise(42, "BLUE, as bits.");
        due("none", nothing().blue(), 0);
        due("999", three().blue(), 2);
        due("100, not 99", of(THREE, "grudge 0 1 over a ice 99;grudge 0 1 over a ice 100").blue(), 2);

        promise(43, "NURSED ones, as bits.");
        due("none", nothing().nursed(), 0);
        due("one", three().nursed(), 2);

        promise(44, "MUTUAL ones, as bits.");
        due("none", nothing().mutual(), 0);
        due("two", three().mutual(), 3);

        promise(45, "PROUD; NONE.");
        due("none", nothing().proud(), NONE);
        due("pride 9", three().proud(), 2);
        due("pride 0", of("family pride 0 needs 1;family pride 0 needs 1").proud(), 0);

        promise(46, "OFFS, as bits.");
        due("none", nothing().offs(), 0);
        due("none", three().offs(), 0);
        GrudgeIce x = three();
        x.seasons(1);
        due("one", x.offs(), 2);
        x.seasons(2);
        due("two", x.offs(), 3);

        promise(47, "`int twins()`: TWINS.");
        due("none", nothing().twins(), 0);
        due("one pair", three().twins(), 1);
        due("45 pairs", of(THREE, times(10, "grudge 0 1 over a ice 1")).twins(), 45);
    }

    private static void ahead() {
        promise(48, "AHEAD of a GRUDGE by N SEASONS: ICE. IllegalArgumentException: N is none.");
        int[] due = {10, 7, 4, 1, 0};
        for (int n = 0; n < 5; n++) due("ahead " + n, three().ahead(0, n), due[n]);
        due("ahead 60", three().ahead(1, 60), 996);
        due("ahead 60", of(THREE, "grudge 0 1 over a ice 999").ahead(0, 60), 819);
        for (int n : new int[] {-1, 61, LEAST, MOST}) noNumber("n " + n, () -> three().ahead(0, n));
        for (int g : new int[] {-1, 3, LEAST, MOST}) noSuch("grudge " + g, () -> three().ahead(g, 0));

        promise(49, "AHEAD of a family by N SEASONS: LARDER. IllegalArgumentException: N is none.");
        int[] larder = {4, 2, 0, 0};
        for (int n = 0; n < 4; n++) due("larder " + n, three().larder(0, n), larder[n]);
        due("larder 60", three().larder(2, 60), 999);
        due("larder 60", of("family pride 1 needs 16 larder 961").larder(0, 60), 1);
        for (int n : new int[] {-1, 61, LEAST, MOST}) noNumber("n " + n, () -> three().larder(0, n));
        for (int f : new int[] {-1, 3, LEAST, MOST}) noSuch("family " + f, () -> three().larder(f, 0));

        promise(50, "TRIAL: GRUDGES, as bits (ice false), or ICE. IllegalArgumentException: N is none.");
        due("0", three().trial(0, false), 7);
        due("0, ice", three().trial(0, true), 1009);
        due("1", three().trial(1, false), 3);
        due("1, ice", three().trial(1, true), 7 + 999 - 3);
        due("60", three().trial(60, false), 2);
        for (int n : new int[] {-1, 61, LEAST, MOST}) {
            noNumber("n " + n, () -> three().trial(n, false));
            noNumber("n " + n, () -> three().trial(n, true));
        }

        promise(51, "SPAN: the least (most false), or the greatest. IllegalArgumentException: N is none.");
        due("0", three().span(0, false), 1009);
        due("0", three().span(0, true), 1009);
        due("60 without kisses", three().span(60, false) - three().span(60, true), 0);
        // the first draws of seeds 0 to 7 modulo 100 are 0, 38, 8, 47, 17, 55, 26, 64
        int[][] kisses = {{0, 100, 100}, {8, 100, 100}, {9, 50, 100}, {55, 50, 100}, {56, 50, 50}, {100, 50, 50}};
        for (int[] row : kisses) {
            GrudgeIce x = of(THREE, COLD, "grudge 0 1 over a ice 100", "kiss " + row[0]);
            due("kiss " + row[0] + " least", x.span(1, false), row[1]);
            due("kiss " + row[0] + " most", x.span(1, true), row[2]);
        }
        // the second draws of these modulo 10 are 8, 8, 7, 7, 6, 7, 5, 6
        int[] least = {185, 185, 185, 185, 185, 140, 140, 140, 140, 185};
        for (int g = 0; g < 10; g++) {
            StringBuilder ten = new StringBuilder();
            for (int h = 0; h < 10; h++) ten.append(h > 0 ? ";" : "").append("grudge 0 1 over a ice ").append(h == g ? 100 : 10);
            GrudgeIce x = of(THREE, COLD, ten.toString(), "kiss 100");
            due("100 is of " + g + " least", x.span(1, false), least[g]);
            due("100 is of " + g + " most", x.span(1, true), 185);
        }
        for (int n : new int[] {-1, 61, LEAST, MOST}) {
            noNumber("n " + n, () -> three().span(n, false));
            noNumber("n " + n, () -> three().span(n, true));
        }
    }

    private static void rows() {
        promise(52, "LED: how many rows (time false), or the TIME; NONE.");
        due("no rows", three().led(0, false), 0);
        due("no time", three().led(0, true), NONE);
        GrudgeIce x = of(THREE, GRUDGES, "time 999");
        x.store(0, 1);
        x.forgive(0);
        due("two rows", x.led(0, false), 2);
        due("the time", x.led(0, true), 999);
        for (int g : new int[] {-1, 3, LEAST, MOST}) {
            noSuch("led " + g, () -> x.led(g, false));
            noSuch("led " + g, () -> x.led(g, true));
        }

        promise(53, "THE LOG so many ago (0 the latest) what 0 TIME, 1 the GRUDGE, 2 0 to 4, 3 ICE; NONE without. NoSuchElementException: another what.");
        int[][] due = {{999, 0, 1, 0}, {999, 0, 3, 1}, {NONE, NONE, NONE, NONE}};
        for (int ago = 0; ago < 3; ago++) {
            for (int what = 0; what < 4; what++) due("row " + ago, x.log(ago, what), due[ago][what]);
        }
        for (int ago : new int[] {-1, 60, LEAST, MOST}) due("row " + ago, x.log(ago, 0), NONE);
        for (int what : new int[] {-1, 4, LEAST, MOST}) {
            noWhat("what " + what, () -> x.log(0, what));
            noWhat("what " + what + " without a row", () -> x.log(2, what));
            noWhat("what " + what + " without any", () -> nothing().log(0, what));
        }

        promise(54, "SEED: what it was.");
        GrudgeIce y = nothing();
        int[] seeds = {1, 0, -1, LEAST, MOST, 1};
        for (int n = 0; n < 5; n++) due("seed", y.seed(seeds[n + 1]), seeds[n]);
        due("it is no act", y.count(11), 0);
    }

    private static void goingBack() {
        promise(55, "UNDONE: whether there was one.");
        due("none", nothing().undo(), false);
        GrudgeIce x = nothing();
        for (int n = 0; n < 13; n++) x.prop(n % 2 == 0);
        for (int n = 0; n < 12; n++) due("one of 12", x.undo(), true);
        due("not a 13th", x.undo(), false);
        due("as ahead of the second", x.count(6), 1);

        promise(56, "THE IMAGE is kept.");
        GrudgeIce y = three();
        y.image();
        y.forgive(0);
        y.image();
        y.forgive(1);
        y.back();
        due("the latest", y.count(1), 6);

        promise(57, "One goes back to THE IMAGE: true; false, and nothing happens, if none was kept.");
        GrudgeIce z = three();
        z.forgive(0);
        due("none", z.back(), false);
        due("nothing happens", z.count(1) * 10 + z.count(11), 61);
        z.image();
        z.forgive(1);
        for (int n = 0; n < 3; n++) {
            due("back", z.back(), true);
            due("as it was", z.count(1) * 10 + z.count(11), 60);
            z.forgive(2);
        }

        promise(58, "0 families, 1 GRUDGES that are not THAWED, as bits, 2 texts of THE TOWN, 3 LINES of THE LAW (NONE without one), 4 TIME, 5 STORE, "
                + "6 1 if PROPPED, 7 KISS, 8 ICE of all GRUDGES together, 9 LARDERS of all together, 10 rows of THE LOG, 11 acts that can be UNDONE. "
                + "NONE for another what.");
        GrudgeIce u = of(THREE, GRUDGES, "time 9;store 8;kiss 7");
        law(u, "melt 0;melt 0");
        u.forgive(0);
        u.store(1, 2);
        u.prop(true);
        int[] due = {3, 6, 3, 2, 9, 10, 1, 7, 997, 1003, 2, 3};
        for (int what = 0; what < 12; what++) due("count " + what, u.count(what), due[what]);
        for (int what : new int[] {-1, 12, 100, LEAST, MOST}) due("count " + what, u.count(what), NONE);
        law(u, "");
        due("an empty law has no line", u.count(3), 0);
        due("without one", nothing().count(3), NONE);
        GrudgeIce full = of(times(6, "family pride 9 needs 0 larder 999"), times(10, "grudge 0 1 over a ice 999"), "store 999;kiss 100;propped;time 999");
        int[] most = {6, 1023, 3, NONE, 999, 999, 1, 100, 9990, 5994, 0, 0};
        for (int what = 0; what < 12; what++) due("full count " + what, full.count(what), most[what]);
    }

    private static void others() {
        sentence("Sets are bits; of none they count for nothing.");
        due("of none", three().misses(0), 0);
        due("of such as are none", three().misses(-8), 0);

        sentence("a GRUDGE is forgiven (THAWED); it is NURSED, or not;");
        GrudgeIce x = three();
        x.forgive(0);
        x.nurse(1, false);
        x.nurse(2, true);
        due("thawed", x.grudge(0, 6), 1);
        due("not nursed", x.grudge(1, 5), 0);
        due("nursed", x.grudge(2, 5), 1);

        sentence("ICE is delivered from STORE;");
        GrudgeIce y = stored();
        y.deliver(1, 998);
        due("store", y.count(5), 0);
        due("larder", y.family(1, 2), 998);

        sentence("NoSuchElementException: another what.");
        throwsThat("another what", NoSuchElementException.class, () -> three().grudge(0, 11));
    }

    public static void main(String[] args) {
        made();
        texts();
        parts();
        acts();
        moves();
        stocks();
        thaws();
        cutting();
        webs();
        choices();
        lists();
        ahead();
        rows();
        goingBack();
        others();
        due("promises", TOLD.size(), 58);
        end("PromisesTest");
    }
}
