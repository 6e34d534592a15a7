/** Promises 7 to 11, 20 to 22, 48 to 51: what is told of families, grudges, slights; the law; seasons and those ahead. */
public final class SeasonsTest {
    private static final String THREE = "family pride 7 needs 10 larder 25;family pride 3 needs 20;family pride 9 needs 0 larder 40";

    private SeasonsTest() {
    }

    private static int holds(String condition, String... texts) {
        GrudgeIce x = Checks.of(texts);
        Checks.law(x, "harden 1 if " + condition);
        int bits = 0;
        for (int g = 0; g < 2; g++) bits |= x.grudge(g, 9) << g;
        return bits;
    }

    private static void conditions() {
        String[] town = {THREE, "slight b bitter 4 deep 6", "grudge 0 1 over b ice 30 age 5 nursed",
            "grudge 1 2 over a ice 100 age 2", "grudge 2 1 over a ice 1", "time 5;heat summer 9"};
        String[][] rows = {
            {"nursed", "1"}, {"mutual", "2"}, {"propped", "0"}, {"not propped", "3"}, {"not nursed", "2"},
            {"grudge > 0", "2"}, {"grudge < 1", "1"}, {"age < 5", "2"}, {"age > 4", "1"}, {"age > 5", "0"},
            {"ice > 30", "2"}, {"ice > 29", "3"}, {"ice < 31", "1"}, {"pride > 6", "1"}, {"pride < 4", "2"},
            {"bitter > 3", "1"}, {"bitter > 4", "0"}, {"deep > 5", "1"}, {"deep < 1", "2"},
            {"heat > 8", "3"}, {"heat < 9", "0"}, {"season > 0", "3"}, {"season < 2", "3"}, {"season > 1", "0"},
            {"age + bitter + deep > 14", "1"}, {"age + bitter + deep > 15", "0"}, {"1 + 2 < 1 + 1 + 2", "3"},
            {"ice < ice", "0"}, {"0 > 0", "0"}, {"1 > 0", "3"}, {"999 < 999 + 1", "3"},
            {"nursed and mutual", "0"}, {"nursed or mutual", "3"}, {"nursed or mutual and propped", "1"},
            {"(nursed or mutual) and propped", "0"}, {"propped and nursed or mutual", "2"},
            {"nursed or propped or propped", "1"}, {"propped or nursed or propped", "1"}, {"propped or propped or nursed", "1"},
            {"nursed and not propped and not mutual", "1"}, {"not nursed and propped", "0"}, {"not (nursed and propped)", "3"}, {"not not nursed", "1"},
            {"not nursed or nursed and 1 < 2", "3"}, {"nursed and 1 > 2 or mutual and 2 > 1 or propped", "2"},
        };
        for (int i = 0; i < rows.length; i++) {
            Checks.due(rows[i][0], holds(rows[i][0], town), Integer.parseInt(rows[i][1]));
        }
        town[5] = "time 4;propped";
        Checks.due("propped", holds("propped", town), 3);
        Checks.due("season of the time", holds("season < 1", town), 3);
        Checks.due("heat of the season", holds("heat < 4", town), 3);
    }

    private static void amounts() {
        GrudgeIce x = Checks.of(THREE, "slight b bitter 4 deep 6;grudge 0 1 over b ice 30 nursed;grudge 1 0 over b ice 9");
        int[][] none = {{9, 3, 0}, {4, 3, 0}};
        int[][] law = {{12, 8, 27}, {2, 3, 7}};
        for (int i = 0; i < 6; i++) Checks.due("without a law", x.grudge(i / 3, 7 + i % 3), none[i / 3][i % 3]);
        Checks.law(x, "freeze 2;freeze 10 if nursed;melt 5 if nursed;harden 7;harden 20 if ice > 9");
        for (int i = 0; i < 6; i++) Checks.due("by the law", x.grudge(i / 3, 7 + i % 3), law[i / 3][i % 3]);
        Checks.law(x, "freeze 1 if mutual");
        Checks.due("mutual", x.grudge(0, 7), 1);
        x.forgive(0);
        Checks.due("as if it was not thawed", x.grudge(0, 7), 1);
        Checks.due("none back", x.grudge(1, 7), 0);
        Checks.due("share of a thawed one", x.grudge(0, 10), 0);
        Checks.due("share of the rest", x.grudge(1, 10), 100);
        Checks.noSuch("grudge 2", () -> x.grudge(2, 11));
        Checks.noSuch("grudge -1", () -> x.grudge(-1, 0));
        Checks.noWhat("what 11", () -> x.grudge(0, 11));
        Checks.noWhat("what -1", () -> x.grudge(0, -1));
        Checks.noSuch("slight 8", () -> x.slight(8, 3));
        Checks.noSuch("slight -1", () -> x.slight(-1, 0));
        Checks.noWhat("slight what 3", () -> x.slight(7, 3));
        Checks.noWhat("slight what -1", () -> x.slight(0, -1));
        Checks.due("over b", x.slight(1, 2), 2);
        Checks.noSuch("heat 4", () -> x.heat(4));
        Checks.noSuch("heat -1", () -> x.heat(-1));
        Checks.noSuch("family 3", () -> x.family(3, 7));
        Checks.noSuch("family -1", () -> x.family(-1, 0));
        Checks.noWhat("family what 7", () -> x.family(2, 7));
        Checks.noWhat("family what -1", () -> x.family(0, -1));
        Checks.due("share without ice", Checks.of(THREE, "grudge 0 1 over a ice 0").grudge(0, 10), 0);
    }

    /** Ice freezes first, at most to 999; what melts is told by the ice then, less what hardens. */
    private static void turns() {
        GrudgeIce x = Checks.of(THREE, "grudge 0 1 over a ice 990;grudge 1 0 over a ice 10;grudge 1 2 over a ice 3 age 98;heat summer 0");
        Checks.law(x, "freeze 50 if ice > 900;melt 30 if ice > 995;harden 5 if mutual;harden 100 if grudge > 1");
        Checks.due("seasons", x.seasons(1), 0);
        Checks.due("999, then 33 less 5", x.grudge(0, 4), 971);
        Checks.due("3 less 5", x.grudge(1, 4), 10);
        Checks.due("hardened", x.grudge(2, 4), 3);
        x.seasons(2);
        Checks.due("age", x.grudge(2, 3), 99);
        Checks.due("age", x.grudge(0, 3), 3);
        Checks.due("time", x.count(4), 3);

        // the first one is thawed, so that the second one is not mutual any more when its turn comes
        GrudgeIce y = Checks.of(THREE, "grudge 0 1 over a ice 2 nursed;grudge 1 0 over a ice 40;grudge 0 1 over b ice 3 age 99");
        Checks.law(y, "harden 3 if mutual and ice > 10");
        Checks.due("thawed", y.seasons(1), 2);
        Checks.due("by all as it is then", y.grudge(1, 4), 40);
        Checks.due("thawed ones", y.count(1), 2);
        Checks.due("what stays", y.grudge(0, 5) * 100 + y.grudge(0, 3) * 10 + y.grudge(0, 6), 111);
        Checks.due("what stays", y.grudge(2, 3), 99);
        y.seasons(1);
        Checks.due("not hardened any more", y.grudge(1, 4), 37);
        Checks.due("a thawed one does not age", y.grudge(0, 3), 1);
        Checks.due("nor freeze", y.grudge(0, 4), 0);
        Checks.due("log", y.log(0, 1) * 100 + y.log(0, 0) * 10 + y.log(0, 2), 200);
        Checks.due("log", y.log(1, 1) * 100 + y.log(1, 3) * 10 + y.log(1, 2), 0);
    }

    private static void eating() {
        GrudgeIce x = Checks.of(THREE, "store 22;heat summer 9");
        int[][] larders = {{25, 0, 40}, {15, 0, 40}, {5, 0, 40}, {0, 0, 40}, {0, 0, 40}};
        int[][] offs = {{0, 0, 0}, {0, 1, 0}, {0, 2, 0}, {1, 3, 0}, {2, 4, 0}};
        int[] stores = {22, 19, 10, 7, 4};
        for (int n = 0; n < 5; n++) {
            for (int f = 0; f < 3; f++) {
                Checks.due("larder now", x.family(f, 2), larders[n][f]);
                Checks.due("off now", x.family(f, 3), offs[n][f]);
                for (int m = n; m < 5; m++) Checks.due("larder ahead", x.larder(f, m - n), larders[m][f]);
            }
            Checks.due("store now", x.count(5), stores[n]);
            x.seasons(1);
        }
        Checks.due("offs", x.offs(), 3);
        Checks.due("store", x.count(5), 1);
        x.prop(true);
        x.seasons(1);
        Checks.due("store", x.count(5), 0);
        GrudgeIce y = Checks.of("propped;store 100;heat spring 7;heat summer 20");
        y.seasons(1);
        Checks.due("five times", y.count(5), 65);
        y.seasons(1);
        Checks.due("none less than 0", y.count(5), 0);
        GrudgeIce just = Checks.of("family pride 0 needs 9 larder 9");
        just.seasons(1);
        Checks.due("just its needs", just.family(0, 2) * 10 + just.family(0, 3), 0);
        GrudgeIce z = Checks.of("family pride 0 needs 1");
        for (int n = 1; n <= 2; n++) z.seasons(60);
        Checks.due("off at most", z.family(0, 3), 99);
        Checks.due("no more off than that", z.family(0, 5), -1);
        Checks.due("none is short", z.scarce(), -1);
        Checks.due("time", z.count(4), 120);
        Checks.noSuch("larder of none", () -> x.larder(3, 61));
        Checks.noNumber("larder 61", () -> x.larder(0, 61));
        Checks.noNumber("larder -1", () -> x.larder(0, -1));
        Checks.due("larder 60", x.larder(2, 60), 40);
    }

    private static void firsts() {
        GrudgeIce x = Checks.of(THREE, "family pride 1 needs 1 larder 59;family pride 1 needs 1 larder 60");
        int[] lasts = {3, 1, -1, 60, -1};
        for (int f = 0; f < 5; f++) Checks.due("lasts", x.family(f, 5), lasts[f]);
        Checks.due("short", x.scarce(), 1);
        Checks.town(x, "store 999");
        x.deliver(1, 60);
        Checks.due("lasts", x.family(1, 5), 4);
        Checks.due("short", x.scarce(), 0);
        x.deliver(0, 15);
        Checks.due("lasts", x.family(0, 5), 5);
        x.deliver(1, 20);
        Checks.due("of several the least", x.scarce(), 0);
        Checks.due("short of none", Checks.of("family pride 1 needs 0").scarce(), -1);
        Checks.due("short at the last", Checks.of("family pride 1 needs 1 larder 59").scarce(), 0);
        Checks.due("short too late", Checks.of("family pride 1 needs 1 larder 60").scarce(), -1);

        Checks.due("stock 0", Checks.of("store 0").stock(), 0);
        Checks.due("stock", Checks.of("store 180").stock(), 60);
        Checks.due("stock", Checks.of("store 181").stock(), -1);
        Checks.due("stock propped", Checks.of("store 181;propped").stock(), 13);
        Checks.due("stock by seasons", Checks.of("store 10;heat spring 0;heat summer 0;heat winter 0;time 1;heat autumn 5").stock(), 6);

        GrudgeIce h = Checks.of(THREE, "grudge 0 1 over a ice 180;grudge 1 2 over a ice 999");
        Checks.due("hot", h.hot(), 60);
        h.forgive(1);
        Checks.due("one more", h.hot(), 60);
        h.seasons(1);
        Checks.due("hot", h.hot(), 59);
        Checks.due("not hot", Checks.of(THREE, "grudge 0 1 over a ice 181").hot(), -1);
        Checks.due("hot at 0 is none", Checks.of(THREE, "grudge 0 1 over a ice 0").hot(), 1);
        GrudgeIce l = Checks.of(THREE, "grudge 0 1 over a ice 50");
        Checks.law(l, "freeze 3;melt 50 if season > 2");
        Checks.due("hot by the law", l.hot(), 4);
        Checks.due("kisses are not ahead", Checks.of(THREE, "grudge 0 1 over a ice 181;kiss 100").hot(), -1);
    }

    private static void ahead() {
        GrudgeIce x = Checks.of(THREE, "slight b bitter 2 deep 0;grudge 0 1 over b ice 30;grudge 1 2 over a ice 9;kiss 100;heat winter 9");
        int[] ice = {30, 29, 28, 27, 20, 19};
        int[] thin = {9, 6, 3, 0, 0, 0};
        for (int n = 0; n < 6; n++) {
            Checks.due("ahead", x.ahead(0, n), ice[n]);
            Checks.due("ahead", x.ahead(1, n), thin[n]);
        }
        x.forgive(0);
        Checks.due("a thawed one keeps its ice", x.ahead(0, 60), 30);
        Checks.noSuch("ahead of none", () -> x.ahead(2, 61));
        Checks.noSuch("ahead of -1", () -> x.ahead(-1, 0));
        Checks.noNumber("ahead 61", () -> x.ahead(1, 61));
        Checks.noNumber("ahead -1", () -> x.ahead(1, -1));
        Checks.due("nothing stays", x.count(4), 0);
        Checks.due("no draws", x.seed(1), 1);
    }

    /** SEED 1 draws 16838, 5758, 10113, 17515, 31051, 5627 and on. */
    private static void draws() {
        String[] town = {THREE, "heat spring 0;heat summer 0;heat autumn 0;heat winter 0",
            "grudge 0 1 over a ice 15;grudge 1 2 over a ice 7;grudge 2 0 over a ice 1;kiss 100"};
        GrudgeIce x = Checks.of(town);
        Checks.due("trial", x.trial(1, true), 19);
        Checks.due("seasons", x.seasons(1), 0);
        // the first draw 16838 is below; the second draw 5758 modulo 3 is 1
        Checks.due("half, rounded up, less", x.grudge(1, 4), 3);
        int[] row = {0, 1, 4, 4};
        for (int what = 0; what < 4; what++) Checks.due("log", x.log(0, what), row[what]);
        Checks.due("seed", x.seed(1) >>> 16 & 32767, 5758);
        GrudgeIce even = Checks.of(THREE, "heat spring 0;grudge 0 1 over a ice 8;kiss 100");
        even.seasons(1);
        Checks.due("half of 8", even.grudge(0, 4) * 10 + even.log(0, 3), 44);
        Checks.town(x, "kiss 38");
        Checks.due("38 is not below 38", x.trial(1, true), 19);
        Checks.due("nothing stays", x.seed(1), 1);
        x.seasons(1);
        Checks.due("no second draw", x.seed(1) >>> 16 & 32767, 16838);
        Checks.town(x, "kiss 39");
        Checks.due("38 is below 39", x.trial(1, true) < 19, true);
        x.seed(1);
        x.forgive(0);
        x.forgive(1);
        x.seasons(1);
        Checks.due("one of one", x.grudge(2, 4), 0);
        Checks.due("not thawed by that", x.grudge(2, 6), 0);
        Checks.due("but by the next season", x.seasons(1), 1);
        x.seed(1);
        x.seasons(1);
        Checks.due("without grudges no second draw", x.seed(1) >>> 16 & 32767, 16838);

        GrudgeIce y = Checks.of(town);
        Checks.due("trial 0", y.trial(0, true), 23);
        Checks.due("trial bits", y.trial(0, false), 7);
        Checks.due("span 0", y.span(0, true) - y.span(0, false), 0);
        int bits = 0;
        for (int kiss = 5; kiss < 100; kiss += 10) {
            for (int n = 1; n <= 15; n++) bits |= spanSeeds(n, kiss);
        }
        Checks.due("the first and the last seed alone tell the span at times", bits & 66, 66);
        int least = 1000;
        int most = 0;
        for (int seed = 1; seed <= 6; seed++) {
            GrudgeIce z = Checks.of(town);
            z.seed(seed);
            y.seed(seed);
            z.seasons(2);
            Checks.due("trial", y.trial(2, true), z.count(8));
            Checks.due("trial", y.trial(2, false), z.count(1));
            least = Math.min(least, z.count(8));
            most = Math.max(most, z.count(8));
        }
        Checks.due("seed as it was", y.seed(-5), 6);
        Checks.due("span least", y.span(2, false), least);
        Checks.due("span most", y.span(2, true), most);
        Checks.due("seed stays", y.seed(1), -5);
        Checks.due("no rows", y.count(10), 0);
        for (int n : new int[] {-1, 61}) {
            Checks.noNumber("trial " + n, () -> y.trial(n, true));
            Checks.noNumber("span " + n, () -> y.span(n, true));
        }
        Checks.due("trial 60", y.trial(60, true), 0);
        Checks.due("thawed then", y.trial(60, false), 0);
    }

    /** Span is by the seeds 1 to 6; answers as bits those that are the only one of the least or the most ice. */
    private static int spanSeeds(int n, int kiss) {
        GrudgeIce x = Checks.of(THREE, "heat spring 0;grudge 0 1 over a ice 900;grudge 1 2 over a ice 77;kiss " + kiss);
        int least = 1000;
        int most = 0;
        int lowest = 0;
        int highest = 0;
        for (int seed = 1; seed <= 6; seed++) {
            x.seed(seed);
            int ice = x.trial(n, true);
            highest = ice > most ? 1 << seed : ice == most ? 0 : highest;
            lowest = ice < least ? 1 << seed : ice == least ? 0 : lowest;
            least = Math.min(least, ice);
            most = Math.max(most, ice);
        }
        x.seed(7);
        Checks.due("span least", x.span(n, false), least);
        Checks.due("span most", x.span(n, true), most);
        return lowest | highest;
    }

    private static void bounds() {
        GrudgeIce x = Checks.of("time 999");
        for (int n : new int[] {0, -1, 61}) Checks.noNumber("seasons " + n, () -> x.seasons(n));
        Checks.due("nothing remembered", x.count(11), 0);
        Checks.due("seasons 60", x.seasons(60), 0);
        for (int n = 0; n < 149; n++) x.seasons(60);
        Checks.due("time", x.count(4), 9999);
        x.seasons(1);
        Checks.due("time at most", x.count(4), 9999);
        Checks.due("ice of all in seasons", Checks.of(THREE, "grudge 0 1 over a ice 9;grudge 0 1 over a ice 3").seasons(3), 2);
    }

    public static void main(String[] args) {
        conditions();
        amounts();
        turns();
        eating();
        firsts();
        ahead();
        draws();
        bounds();
        Checks.end("SeasonsTest");
    }
}
