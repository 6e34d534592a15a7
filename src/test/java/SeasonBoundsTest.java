/** The bounds of a SEASON and of those ahead, sentence by sentence (promises 7, 10, 11, 20 to 22, 48 to 51, 54). */
public final class SeasonBoundsTest extends Checks {
    private static final String THREE = "family pride 1 needs 0;family pride 1 needs 0;family pride 1 needs 0";
    private static final String COLD = "heat spring 0;heat summer 0;heat autumn 0;heat winter 0";

    private SeasonBoundsTest() {
    }

    private static String grudge(int ice) {
        return "grudge 0 1 over a ice " + ice;
    }

    /** ICE a SEASON later of one that has so much, by so many of each LINE of the law. */
    private static int turned(int ice, int freezes, int melts, int hardens) {
        GrudgeIce x = of(THREE, COLD, grudge(ice));
        law(x, "freeze " + freezes + ";melt " + melts + ";harden " + hardens);
        int thawed = x.seasons(1);
        due("thawed with ice 0 alone", x.grudge(0, 6), x.grudge(0, 4) == 0 ? 1 : 0);
        due("how many were thawed", thawed, x.grudge(0, 6));
        return x.grudge(0, 4);
    }

    private static void freezing() {
        sentence("ICE is what it FREEZES by more (999 at most)");
        int[][] rows = {{0, 1, 1}, {900, 98, 998}, {900, 99, 999}, {900, 100, 999}, {998, 0, 998}, {998, 1, 999}, {998, 2, 999},
            {999, 0, 999}, {999, 1, 999}, {999, 100, 999}};
        for (int[] row : rows) due(row[0] + " and " + row[1], turned(row[0], row[1], 0, 0), row[2]);
        GrudgeIce x = of(THREE, COLD, grudge(0));
        law(x, times(12, "freeze 100"));
        x.seasons(1);
        due("1200 at once", x.grudge(0, 4), 999);
        GrudgeIce y = of(THREE, COLD, "slight a bitter 9 deep 0;grudge 0 1 over a ice 985 nursed");
        y.seasons(1);
        due("without a law: 985 and 14", y.grudge(0, 4), 999);
        y.seasons(1);
        due("no more", y.grudge(0, 4), 999);
    }

    private static void lastOnes() {
        sentence("each GRUDGE that is not THAWED, by numbers:");
        String[] words = {"grudge > 8", "age > 8", "ice > 899", "nursed", "pride > 0", "bitter > 0", "deep > 0"};
        for (String word : words) {
            GrudgeIce x = of("family pride 0 needs 0;family pride 9 needs 0;family pride 0 needs 0", "slight h bitter 9 deep 9;" + COLD,
                    times(9, "grudge 0 2 over a ice 50"), "grudge 1 0 over h ice 900 age 9 nursed");
            due("without a law the tenth", x.grudge(9, 7), 14);
            due("the first", x.grudge(0, 7), 0);
            x.insult(0, 2, 0);
            law(x, "freeze 3;freeze 50 if " + word);
            due(word, x.grudge(9, 7), 53);
            due(word + " of another one", x.grudge(8, 7), 3);
            x.seasons(1);
            due(word, x.grudge(9, 4), 953);
            due("of another one", x.grudge(8, 4), 53);
        }
        GrudgeIce x = of(THREE, COLD, times(9, grudge(9)), "grudge 1 0 over a ice 9");
        law(x, "freeze 1 if mutual");
        x.seasons(1);
        for (int g = 0; g < 10; g++) due("each of ten", x.grudge(g, 4), 10);
    }

    private static void melting() {
        sentence("then what it MELTS by, less what it HARDENS by (0 at least), less (0 at least)");
        due("999 at most first, then less", turned(999, 100, 10, 0), 989);
        due("999 at most first, then less", turned(950, 100, 60, 10), 949);
        due("melts less than hardens", turned(50, 0, 5, 6), 50);
        due("melts as much as hardens", turned(50, 0, 5, 5), 50);
        due("melts more by one", turned(50, 0, 6, 5), 49);
        due("hardening is no ice", turned(50, 0, 0, 100), 50);
        due("hardening is no ice", turned(50, 7, 0, 100), 57);
        due("one is left", turned(8, 0, 7, 0), 1);
        due("none is left", turned(7, 0, 7, 0), 0);
        due("no less than none", turned(6, 0, 7, 0), 0);
        due("no less than none", turned(0, 0, 100, 0), 0);
        due("freezing first", turned(0, 5, 4, 0), 1);
        due("freezing first", turned(0, 5, 5, 0), 0);
        due("freezing first", turned(0, 5, 6, 0), 0);
        for (int heat : new int[] {0, 1, 20}) {
            GrudgeIce x = of(THREE, "heat spring " + heat, grudge(30));
            x.seasons(1);
            due("heat melts", x.grudge(0, 4), 30 - heat);
            GrudgeIce y = of(THREE, "heat spring " + heat, grudge(30));
            law(y, "melt 2;harden 3");
            y.seasons(1);
            due("heat and a melt line, less hardening", y.grudge(0, 4), 30 - Math.max(0, heat - 1));
        }
    }

    private static void aging() {
        sentence("AGE is 1 more (99 at most); with ICE 0 it is THAWED (AGE, ICE, NURSED, SLIGHT stay as they are).");
        GrudgeIce x = of(THREE, COLD, grudge(9) + " age 97", grudge(9) + " age 98", grudge(9) + " age 99", grudge(9));
        int[][] ages = {{98, 99, 99, 1}, {99, 99, 99, 2}, {99, 99, 99, 3}};
        for (int n = 0; n < 3; n++) {
            x.seasons(1);
            for (int g = 0; g < 4; g++) due("age", x.grudge(g, 3), ages[n][g]);
        }
        GrudgeIce y = of(THREE, "slight c bitter 1 deep 2", "grudge 1 2 over c ice 1 age 98;grudge 2 1 over c ice 2 age 99 nursed;"
                + "grudge 0 1 over h ice 0 nursed;grudge 0 1 over b ice 4");
        law(y, "");
        due("three with no ice then", y.seasons(1), 3);
        int[][] told = {{1, 2, 2, 99, 0, 0, 1}, {2, 1, 2, 99, 0, 1, 1}, {0, 1, 7, 1, 0, 1, 1}, {0, 1, 1, 1, 1, 0, 0}};
        for (int n = 0; n < 2; n++) {
            for (int g = 0; g < 4 - n; g++) {
                for (int what = 0; what < 7; what++) due("grudge " + g + " what " + what, y.grudge(g, what), told[g][what]);
            }
            due("those that are left", y.count(1), n == 0 ? 8 : 0);
            if (n == 0) due("the last one", y.seasons(1), 1);
        }
        law(y, "freeze 100");
        due("none any more", y.seasons(60), 0);
        for (int what = 0; what < 7; what++) due("stays " + what, y.grudge(2, what), told[2][what]);
        GrudgeIce sawn = of(THREE, grudge(5));
        law(sawn, "freeze 4");
        sawn.saw(0, 2, 5);
        due("sawn to 0 it goes on", sawn.seasons(1), 0);
        due("and freezes anew", sawn.grudge(0, 4), 1);
        GrudgeIce forgiven = of(THREE, COLD, grudge(5) + " nursed");
        forgiven.forgive(0);
        forgiven.seasons(3);
        due("a forgiven one stays as it is", forgiven.grudge(0, 3) * 100 + forgiven.grudge(0, 4) * 10 + forgiven.grudge(0, 5), 51);
        due("and is thawed once", forgiven.count(10), 1);
    }

    private static void eating() {
        sentence("Each family, by numbers: with NEEDS in its LARDER at least it has as much less, else LARDER is 0 and OFF is 1 more "
                + "(99 at most).");
        int[][] rows = {{10, 9, 0, 1}, {10, 10, 0, 0}, {10, 11, 1, 0}, {10, 0, 0, 1}, {0, 0, 0, 0}, {0, 999, 999, 0}, {1, 0, 0, 1},
            {1, 1, 0, 0}, {99, 98, 0, 1}, {99, 99, 0, 0}, {99, 999, 900, 0}};
        for (int[] row : rows) {
            GrudgeIce x = of("family pride 1 needs 5 larder 7;family pride 1 needs " + row[0] + " larder " + row[1]);
            due("larder ahead", x.larder(1, 1), row[2]);
            x.seasons(1);
            due("larder " + row[1] + " of needs " + row[0], x.family(1, 2), row[2]);
            due("off", x.family(1, 3), row[3]);
            due("of each its own", x.family(0, 2) * 10 + x.family(0, 3), 20);
            due("offs", x.offs(), row[3] * 2);
        }
        GrudgeIce x = of("family pride 1 needs 1");
        x.seasons(60);
        x.seasons(38);
        due("off", x.family(0, 3), 98);
        due("lasts", x.family(0, 5), 1);
        x.seasons(1);
        due("off", x.family(0, 3), 99);
        due("it cannot be more", x.family(0, 5), -1);
        x.seasons(1);
        due("99 at most", x.family(0, 3), 99);
    }

    private static void leaking() {
        sentence("STORE is HEAT less, 5 times that, if it is PROPPED (0 at least).");
        int[][] shut = {{0, 0, 0}, {0, 7, 7}, {20, 19, 0}, {20, 20, 0}, {20, 21, 1}, {3, 0, 0}, {1, 999, 998}};
        for (int[] row : shut) {
            GrudgeIce x = of("heat spring " + row[0] + ";store " + row[1]);
            x.seasons(1);
            due("heat " + row[0] + " store " + row[1], x.count(5), row[2]);
        }
        int[][] propped = {{0, 7, 7}, {20, 99, 0}, {20, 100, 0}, {20, 101, 1}, {1, 4, 0}, {1, 5, 0}, {1, 6, 1}, {3, 999, 984}};
        for (int[] row : propped) {
            GrudgeIce x = of("propped;heat spring " + row[0] + ";store " + row[1]);
            x.seasons(1);
            due("propped, heat " + row[0] + " store " + row[1], x.count(5), row[2]);
            due("it stays propped", x.count(6), 1);
        }
        GrudgeIce x = of("store 100;heat spring 1;heat summer 2;heat autumn 4;heat winter 8;time 3");
        int[] due = {92, 91, 89, 85, 77};
        for (int n = 0; n < 5; n++) {
            x.seasons(1);
            due("of the season that it was", x.count(5), due[n]);
        }
    }

    // ---- draws

    private static int next(int seed) {
        return 1103515245 * seed + 12345;
    }

    private static int draw(int seed) {
        return next(seed) >> 16 & 0x7fff;
    }

    private static void seeds() {
        sentence("DRAW: SEED is 1103515245 times SEED and 12345, as an int that goes round; bits 16 to 30 (SEED 1 at first).");
        due("seed at first", new GrudgeIce().seed(5), 1);
        int[] seeds = {0, 1, 2, -1, 5, 12345, 1103527590, Integer.MAX_VALUE, Integer.MIN_VALUE, 1 << 30, -1103515245};
        for (int seed : seeds) {
            GrudgeIce x = new GrudgeIce();
            x.seed(seed);
            due("seed as told", x.seed(seed), seed);
            x.seasons(1);
            due("one draw of a season", x.seed(seed), next(seed));
            x.seasons(2);
            due("one of each", x.seed(0), next(next(seed)));
        }
        int high = 0;
        for (int seed = 1; seed <= 40; seed++) {
            GrudgeIce x = of(THREE, COLD, times(7, grudge(1)), "kiss 100");
            x.seed(seed);
            x.seasons(1);
            due("two draws with a kiss", x.seed(seed), next(next(seed)));
            due("the place", x.log(0, 1), draw(next(seed)) % 7);
            if (next(next(seed)) < 0) high++;
        }
        due("some with the highest bit", high > 9 && high < 31, true);
        GrudgeIce x = new GrudgeIce();
        x.seasons(1);
        due("the first draw is 16838", x.seed(1) >>> 16 & 32767, 16838);
        x.seasons(60);
        int seed = 1;
        for (int n = 0; n < 60; n++) seed = next(seed);
        due("60 draws", x.seed(1), seed);
    }

    /** A seed whose first draw modulo 100 is this. */
    private static int seedOf(int rest) {
        int seed = 1;
        for (int n = 0; n < 100000 && draw(seed) % 100 != rest; n++) seed++;
        return seed;
    }

    private static void kissing() {
        sentence("if DRAW modulo 100 is below KISS: of the GRUDGES that are not THAWED that of the place DRAW modulo how many (the second "
                + "DRAW just then, and if there are any) is half of its ICE less, rounded up.");
        int[][] rows = {{0, 0, 0}, {0, 1, 1}, {1, 1, 0}, {49, 49, 0}, {49, 50, 1}, {50, 50, 0}, {98, 99, 1}, {99, 99, 0}, {99, 100, 1},
            {1, 0, 0}, {0, 100, 1}};
        for (int[] row : rows) {
            int seed = seedOf(row[0]);
            GrudgeIce x = of(THREE, COLD, grudge(9), "kiss " + row[1]);
            x.seed(seed);
            due("trial", x.trial(1, true), row[2] == 1 ? 4 : 9);
            x.seasons(1);
            due(row[0] + " below " + row[1], x.count(10), row[2]);
            due("the second draw just then", x.seed(1), row[2] == 1 ? next(next(seed)) : next(seed));
        }
        int[][] halves = {{1, 1}, {2, 1}, {3, 2}, {4, 2}, {5, 3}, {100, 50}, {998, 499}, {999, 500}};
        for (int[] half : halves) {
            GrudgeIce x = of(THREE, COLD, grudge(half[0]), "kiss 100");
            due("by a kiss none is thawed", x.seasons(1), 0);
            due("ice then", x.grudge(0, 4), half[0] - half[1]);
            int[] row = {0, 0, 4, half[1]};
            for (int what = 0; what < 4; what++) due("row " + what, x.log(0, what), row[what]);
            due("not thawed by that", x.grudge(0, 6), 0);
        }
        GrudgeIce none = of(THREE, "kiss 100");
        none.seasons(1);
        due("without any no second draw", none.seed(1), next(1));
        GrudgeIce gone = of(THREE, COLD, grudge(0), grudge(9), "kiss 100");
        gone.forgive(1);
        due("thawed just now", gone.seasons(1), 1);
        due("so none is kissed", gone.count(10), 2);
        due("and no second draw", gone.seed(1), next(1));
        for (int seed = 1; seed <= 12; seed++) {
            GrudgeIce x = of(THREE, COLD, times(6, grudge(9)), "kiss 100");
            x.forgive(0);
            x.forgive(3);
            x.seed(seed);
            x.seasons(1);
            due("of those that are left, by numbers", x.log(0, 1), new int[] {1, 2, 4, 5}[draw(next(seed)) % 4]);
        }
        GrudgeIce first = of(THREE, grudge(7), "kiss 100");
        first.seasons(1);
        due("melted ahead of the kiss", first.grudge(0, 4), 2);
    }

    private static void ticking() {
        sentence("TIME is 1 more (9999 at most). (Each by all as it is then.)");
        GrudgeIce x = of(THREE, "time 998", grudge(3), "kiss 100");
        due("thawed", x.seasons(1), 1);
        due("time of the row", x.log(0, 0), 998);
        due("time", x.count(4), 999);
        x.seasons(1);
        due("time", x.count(4), 1000);
        due("61 seasons", x.seasons(60), 0);
        due("time", x.count(4), 1060);
        // by numbers: the first is gone when the second one's turn comes, and the second one not yet when the first one's comes
        GrudgeIce y = of(THREE, "grudge 0 1 over a ice 3;grudge 1 0 over a ice 9;grudge 1 2 over a ice 9;grudge 2 1 over a ice 3");
        law(y, "harden 3 if mutual and ice > 5");
        due("thawed", y.seasons(1), 2);
        due("not mutual any more", y.grudge(1, 4), 6);
        due("mutual still", y.grudge(2, 4), 9);
        // what melts and hardens is told by the ice that has frozen just now
        int[][] rows = {{10, 0, 10}, {9, 1, 10}, {8, 2, 10}, {7, 2, 4}, {995, 9, 999}, {998, 1, 999}};
        for (int[] row : rows) {
            GrudgeIce w = of(THREE, COLD, grudge(row[0]));
            law(w, "freeze " + row[1] + ";melt 5;harden 5 if ice > 9");
            w.seasons(1);
            due(row[0] + " and " + row[1], w.grudge(0, 4), row[2]);
        }
        // what is told of the town is as it was ahead of this SEASON's eating, leaking, ticking
        GrudgeIce z = of(THREE, COLD, grudge(50) + " age 4", "time 2;propped");
        law(z, "melt 1 if age > 4;melt 2 if season > 2;melt 4 if season > 1;melt 8 if propped");
        z.seasons(1);
        due("age and season as they were", z.grudge(0, 4), 38);
        z.prop(false);
        z.seasons(1);
        due("and a season later", z.grudge(0, 4), 31);
    }

    private static void seasonsMore() {
        sentence("So many SEASONS more (1 to 60): how many GRUDGES were THAWED in these.");
        GrudgeIce x = of(THREE, grudge(3), grudge(6), grudge(180), grudge(183));
        for (int n : new int[] {0, -1, 61, 1000, Integer.MIN_VALUE, Integer.MAX_VALUE}) noNumber("seasons " + n, () -> x.seasons(n));
        due("none of these passed", x.count(4), 0);
        due("one", x.seasons(1), 1);
        due("one", x.count(4), 1);
        x.undo();
        due("sixty", x.seasons(60), 3);
        due("sixty", x.count(4), 60);
        due("the last one", x.seasons(1), 1);
        due("none are left", x.seasons(60), 0);
        due("four rows", x.count(10), 4);
        due("the time of the last", x.log(0, 0), 60);
        due("the time of the one before", x.log(1, 0), 59);
        due("without anything", new GrudgeIce().seasons(60), 0);
        GrudgeIce forgiven = of(THREE, grudge(3));
        forgiven.forgive(0);
        due("forgiven ones are not of these", forgiven.seasons(5), 0);
    }

    // ---- AHEAD

    private static void ahead() {
        sentence("AHEAD by N SEASONS (0 to 60): as so many SEASONS without (d) (no DRAWS).");
        String[] town = {THREE, "slight b bitter 7 deep 2;grudge 0 1 over b ice 99;grudge 1 0 over a ice 180;grudge 1 2 over b ice 500 nursed;"
                + "heat winter 20;heat summer 9", "family pride 1 needs 9 larder 99;family pride 1 needs 1 larder 59", "store 300"};
        GrudgeIce x = of(town);
        town(x, "kiss 100");
        law(x, "freeze 5 if mutual;freeze 9 if nursed;melt 1 if age > 20");
        GrudgeIce y = of(town);
        law(y, "freeze 5 if mutual;freeze 9 if nursed;melt 1 if age > 20");
        for (int n = 0; n <= 60; n++) {
            for (int g = 0; g < 3; g++) if (n < 10 || n > 55) due("ahead " + n, x.ahead(g, n), y.grudge(g, 4));
            if (n < 10 || n > 55) due("larder ahead " + n, x.larder(3, n), y.family(3, 2));
            y.seasons(1);
        }
        int[] wrong = {-1, 61, Integer.MIN_VALUE, Integer.MAX_VALUE};
        for (int n : wrong) {
            noNumber("ahead " + n, () -> x.ahead(0, n));
            noNumber("larder " + n, () -> x.larder(0, n));
        }
        due("nothing stays", x.count(4) + x.count(10) + x.count(11), 0);
        due("no draws", x.seed(1), 1);
        GrudgeIce z = of(THREE, grudge(9), grudge(999), "time 999");
        z.forgive(0);
        due("a forgiven one keeps its ice", z.ahead(0, 60), 9);
        due("an ordinary one", z.ahead(1, 60), 819);
        GrudgeIce late = of(THREE, COLD, grudge(999));
        law(late, "melt 1 if season > 2;freeze 4");
        for (int n = 0; n < 167; n++) late.seasons(60);
        due("time", late.count(4), 9999);
        due("the last season stays", late.ahead(0, 60), 998);
    }

    private static void lasts() {
        sentence("LASTS of a family: the first N (0 to 60) AHEAD by which its OFF is more than now; none.");
        int[][] rows = {{1, 0, 1, 1}, {1, 1, 2, 1}, {1, 58, 59, 58}, {1, 59, 60, 59}, {1, 60, -1, 60}, {0, 0, -1, -1}, {0, 999, -1, -1},
            {99, 98, 1, 1}, {99, 99, 2, 1}, {99, 999, 11, 10}, {16, 959, 60, 59}, {16, 960, -1, 60}, {17, 999, 59, 58}};
        for (int[] row : rows) {
            GrudgeIce x = of("family pride 1 needs " + row[0] + " larder " + row[1]);
            due("needs " + row[0] + " larder " + row[1], x.family(0, 5), row[2]);
            due("short", x.scarce(), row[2] < 0 ? -1 : 0);
            x.seasons(1);
            due("a season later", x.family(0, 5), row[3]);
        }
    }

    private static void shortOnes() {
        sentence("SHORT: the family whose LASTS is the least (of several the least; none).");
        due("without families", new GrudgeIce().scarce(), -1);
        due("none", of("family pride 1 needs 0;family pride 1 needs 1 larder 60").scarce(), -1);
        due("the last one", of("family pride 1 needs 0;family pride 1 needs 1 larder 60;family pride 1 needs 1 larder 59").scarce(), 2);
        due("the least", of("family pride 1 needs 1 larder 2;family pride 1 needs 5 larder 9;family pride 1 needs 9 larder 10").scarce(), 1);
        due("of six the last", of(times(5, "family pride 1 needs 1 larder 9") + ";family pride 1 needs 1 larder 8").scarce(), 5);
    }

    private static void stock() {
        sentence("STOCK: the first N (0 to 60) AHEAD by which STORE is 0; none.");
        int[][] rows = {{0, 3, 0}, {1, 3, 1}, {3, 3, 1}, {4, 3, 2}, {177, 3, 59}, {180, 3, 60}, {181, 3, -1}, {999, 20, 50}, {1, 0, -1}, {0, 0, 0},
            {60, 1, 60}, {61, 1, -1}};
        for (int[] row : rows) {
            GrudgeIce x = of("store " + row[0], COLD.replace(" 0", " " + row[1]));
            due("store " + row[0] + " heat " + row[1], x.stock(), row[2]);
            x.prop(true);
            int n = row[0] == 0 ? 0 : row[1] == 0 ? -1 : (row[0] + 5 * row[1] - 1) / (5 * row[1]);
            due("propped", x.stock(), n);
        }
        GrudgeIce last = of(COLD, "heat winter 1;store 15");
        due("in the last season of the 60", last.stock(), 60);
        town(last, "time 1");
        due("in winter alone", last.stock(), 59);
        town(last, "store 16");
        due("too much by one", last.stock(), -1);
    }

    private static void hot() {
        sentence("HOT: the first N (0 to 60) AHEAD by which some GRUDGE more is THAWED; none.");
        int[][] rows = {{0, 1}, {1, 1}, {3, 1}, {4, 2}, {177, 59}, {178, 60}, {180, 60}, {181, -1}, {999, -1}};
        for (int[] row : rows) {
            GrudgeIce x = of(THREE, grudge(999), grudge(row[0]));
            due("ice " + row[0], x.hot(), row[1]);
            x.forgive(1);
            due("a forgiven one is none more", x.hot(), -1);
        }
        due("without grudges", of(THREE).hot(), -1);
        GrudgeIce x = of(THREE, grudge(3), grudge(30));
        x.seasons(1);
        due("one more", x.hot(), 9);
        GrudgeIce winter = of(THREE, COLD, grudge(9), "heat winter 9");
        due("in winter alone", winter.hot(), 4);
        town(winter, "time 999");
        due("it is winter", winter.hot(), 1);
        town(winter, "time 1;heat winter 1");
        due("nine winters, the last in 35", winter.hot(), 35);
        GrudgeIce kissed = of(THREE, COLD, grudge(1), "kiss 100");
        due("without kisses none", kissed.hot(), -1);
    }

    // ---- trials

    private static void trials() {
        sentence("TRIAL of N SEASONS (0 to 60) from now (draws, too; nothing stays): GRUDGES that are not THAWED then, as bits; "
                + "ICE of these together.");
        GrudgeIce x = of(THREE, grudge(3), grudge(180), grudge(183), grudge(60), "kiss 40");
        x.forgive(3);
        x.seed(99);
        x.prop(true);
        for (int n : new int[] {0, 1, 2, 20, 59, 60}) {
            GrudgeIce y = of(THREE, grudge(3), grudge(180), grudge(183), grudge(60), "kiss 40");
            y.forgive(3);
            y.seed(99);
            if (n > 0) y.seasons(n);
            due("trial " + n, x.trial(n, false), y.count(1));
            due("trial " + n + " of ice", x.trial(n, true), y.count(8));
        }
        due("now", x.trial(0, false) * 1000 + x.trial(0, true), 7366);
        for (int n : new int[] {-1, 61, Integer.MIN_VALUE, Integer.MAX_VALUE}) {
            noNumber("trial " + n, () -> x.trial(n, false));
            noNumber("trial of ice " + n, () -> x.trial(n, true));
            noNumber("span " + n, () -> x.span(n, false));
            noNumber("span most " + n, () -> x.span(n, true));
        }
        due("nothing stays", x.count(4) * 100 + x.count(10) * 10 + x.count(11), 12);
        due("the seed stays", x.seed(1), 99);
        due("without any", new GrudgeIce().trial(60, false) + new GrudgeIce().trial(60, true), 0);
        due("a law that melts all", meltAll().trial(1, false), 0);
    }

    private static GrudgeIce meltAll() {
        GrudgeIce x = of(THREE, grudge(999));
        law(x, times(12, "melt 100"));
        return x;
    }

    private static void spans() {
        sentence("SPAN: the least and the greatest ICE of all together so from SEED 1, 2, .. 6.");
        GrudgeIce x = of(THREE, COLD, grudge(900), grudge(77), grudge(5), "kiss 50");
        for (int n : new int[] {0, 1, 2, 5, 10, 60}) {
            int least = Integer.MAX_VALUE;
            int most = 0;
            for (int seed = 1; seed <= 6; seed++) {
                x.seed(seed);
                int ice = x.trial(n, true);
                least = Math.min(least, ice);
                most = Math.max(most, ice);
            }
            for (int seed : new int[] {0, 7, -1}) {
                x.seed(seed);
                due("span least " + n, x.span(n, false), least);
                due("span most " + n, x.span(n, true), most);
                due("the seed stays", x.seed(1), seed);
            }
        }
        due("none", new GrudgeIce().span(60, true) + new GrudgeIce().span(60, false), 0);
        due("none is kissed", of(THREE, COLD, grudge(900)).span(60, false), 900);
    }

    public static void main(String[] args) {
        freezing();
        lastOnes();
        melting();
        aging();
        eating();
        leaking();
        seeds();
        kissing();
        ticking();
        seasonsMore();
        ahead();
        lasts();
        shortOnes();
        stock();
        hot();
        trials();
        spans();
        end("SeasonBoundsTest");
    }
}
