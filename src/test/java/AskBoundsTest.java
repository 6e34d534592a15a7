/** The bounds of what is asked of ice, larders and slights, sentence by sentence (promises 7 to 9, 19, 23 to 30, 37 to 47). */
public final class AskBoundsTest extends Checks {
    private static final String SIX = times(6, "family pride 1 needs 10");

    private AskBoundsTest() {
    }

    /** Families with these needs and larders, one behind another. */
    private static String families(int... needsAndLarders) {
        StringBuilder told = new StringBuilder();
        for (int i = 0; i < needsAndLarders.length; i += 2) {
            told.append(i > 0 ? ";" : "").append("family pride 1 needs ").append(needsAndLarders[i]);
            told.append(" larder ").append(needsAndLarders[i + 1]);
        }
        return told.toString();
    }

    /** Grudges as "01:5 12:7": of 0 to 1 with ice 5, of 1 to 2 with ice 7. */
    private static String grudges(String rows) {
        StringBuilder told = new StringBuilder();
        for (String row : rows.split(" ")) {
            told.append(told.length() > 0 ? ";" : "").append("grudge ").append(row.charAt(0)).append(' ').append(row.charAt(1));
            told.append(" over a ice ").append(row.substring(3));
        }
        return told.toString();
    }

    private static void thawedCountForNothing() {
        sentence("(GRUDGES that are not THAWED are told; those THAWED count for nothing.)");
        GrudgeIce x = of("family pride 0 needs 9;family pride 0 needs 9;family pride 0 needs 9",
                "grudge 0 1 over b ice 500 age 9 nursed;grudge 1 0 over b ice 400 age 9;grudge 1 2 over b ice 300 age 9");
        for (int g = 0; g < 3; g++) x.forgive(g);
        for (int f = 0; f < 3; f++) {
            due("gives", x.family(f, 4), 0);
            due("price", x.family(f, 6), 0);
            due("ring", x.ring(f), false);
            due("with whom", x.kisses(f), -1);
            for (int o = 0; o < 3; o++) due("steps", x.steps(f, o), f == o ? 0 : -1);
        }
        for (int g = 0; g < 3; g++) {
            due("share", x.grudge(g, 10), 0);
            due("rests", x.rests(g), -1);
        }
        int[] nothing = {x.cold(), x.keeps(), x.thaw(0), x.camps(true), x.camps(false), x.between(), x.blue(), x.nursed(), x.mutual(),
            x.twins(), x.slight(1, 2), x.trial(1, true), x.trial(1, false), x.span(1, true), x.count(1), x.count(8), x.kisses(-1)};
        for (int i = 0; i < nothing.length; i++) due("nothing " + i, nothing[i], 0);
        due("friends", x.friends(), 3);
        due("feud", x.feud(), 1);
        due("rota", x.rota(), 2);
        due("hot", x.hot(), -1);
        due("oldest", x.oldest(), -1);
        due("thaw 1", x.thaw(1), -1);
        due("misses", x.misses(7), 27);
        due("tight", x.tight(), 7);
        tape(x, "");
        due("likely", x.cuts(true), 0);
        GrudgeIce z = of("family pride 0 needs 9;family pride 0 needs 9", "grudge 0 1 over b ice 0;grudge 0 1 over b ice 9");
        z.seasons(1);
        due("the season's one", z.count(1), 2);
        due("of one", z.grudge(0, 10) + z.grudge(1, 10), 100);
    }

    private static void gives() {
        sentence("GIVES of a family: ICE of all GRUDGES FROM or TO it together. COLD: ICE of all, and STORE.");
        GrudgeIce x = of(SIX, grudges("01:5 10:7 12:11 20:13 45:999 54:999"), "store 999");
        int[] due = {25, 23, 24, 0, 1998, 1998};
        for (int f = 0; f < 6; f++) due("gives of " + f, x.family(f, 4), due[f]);
        due("cold", x.cold(), 5 + 7 + 11 + 13 + 1998 + 999);
        due("ice of all", x.count(8), 2034);
        due("without families", new GrudgeIce().cold(), 0);
        due("store alone", of("store 7").cold(), 7);
        due("ten full ones", of(SIX, times(10, "grudge 0 1 over a ice 999")).family(1, 4), 9990);
        due("ten full ones", of(SIX, times(10, "grudge 0 1 over a ice 999"), "store 999").cold(), 10989);
        for (int f : new int[] {-1, 6, Integer.MIN_VALUE, Integer.MAX_VALUE}) noSuch("family " + f, () -> x.family(f, 4));
    }

    private static void keeps() {
        sentence("KEEPS: a family WANTS its NEEDS less its LARDER (0 at least); it may have ICE of GRUDGES that are neither FROM nor TO it: "
                + "how much ICE can be delivered so at the most, all together, none more than it WANTS, of no GRUDGE more than its ICE.");
        due("without families", new GrudgeIce().keeps(), 0);
        due("without grudges", of(SIX).keeps(), 0);
        due("two alone have none", of(families(9, 0, 9, 0), grudges("01:50")).keeps(), 0);
        int[][] rows = {{9, 0, 8, 8}, {9, 0, 9, 9}, {9, 0, 10, 9}, {9, 8, 10, 1}, {9, 9, 10, 0}, {9, 10, 10, 0}, {0, 0, 10, 0}, {9, 0, 0, 0},
            {99, 0, 999, 99}};
        for (int[] row : rows) {
            GrudgeIce x = of(families(0, 0, 0, 0, row[0], row[1]), grudges("01:" + row[2]));
            due("needs " + row[0] + " larder " + row[1] + " ice " + row[2], x.keeps(), row[3]);
            due("it misses the rest", x.misses(4), Math.max(0, row[0] - row[1]) - row[3]);
        }
        due("a full larder is none for others", of(families(9, 0, 9, 0, 5, 99), grudges("02:4 12:4")).keeps(), 8);
        due("one grudge for both", of(families(5, 0, 5, 0, 0, 0, 0, 0), grudges("23:7")).keeps(), 7);
        due("one grudge for both", of(families(5, 0, 5, 0, 0, 0, 0, 0), grudges("23:11")).keeps(), 10);
        due("who can have the other one's gives way", of(families(5, 0, 5, 0, 0, 0, 0, 0), grudges("23:5 13:5")).keeps(), 10);
        due("to FROM and TO none", of(families(5, 0, 5, 0, 0, 0), grudges("20:9 21:3")).keeps(), 8);
        due("six with ten", of(families(99, 0, 99, 0, 99, 0, 99, 0, 99, 0, 99, 0), times(10, "grudge 0 1 over a ice 999")).keeps(), 396);
        due("all six", of(families(99, 0, 99, 0, 99, 0, 99, 0, 99, 0, 99, 0), grudges("01:999 23:999")).keeps(), 594);
    }

    private static void misses() {
        sentence("MISSES of a set of families: what they WANT together, less ICE of all GRUDGES of which any of them may have some "
                + "(0 at least).");
        int[][] rows = {{8, 1}, {9, 0}, {10, 0}, {0, 9}};
        for (int[] row : rows) {
            GrudgeIce x = of(families(7, 0, 7, 0, 9, 0), grudges("01:" + row[0]));
            due("of 2", x.misses(4), row[1]);
            due("of 0, that may have none of it", x.misses(1), 7);
            due("of 0 and 2", x.misses(5), Math.max(0, 16 - row[0]));
            due("of all", x.misses(7), Math.max(0, 23 - row[0]));
            due("of nobody", x.misses(0), 0);
        }
        GrudgeIce x = of(families(7, 0, 7, 0, 9, 30), grudges("02:3 12:3"));
        due("a full one wants none", x.misses(4), 0);
        due("nor helps", x.misses(5), 4);
        due("both", x.misses(3), 8);

        sentence("MISSES of a set (others than families count for nothing).");
        int[][] sets = {{8, 0}, {64, 0}, {-8, 0}, {Integer.MIN_VALUE, 0}, {-1, 8}, {Integer.MAX_VALUE, 8}, {9, 4}, {Integer.MIN_VALUE | 1, 4}};
        for (int[] set : sets) due("set " + set[0], x.misses(set[0]), set[1]);
        due("without families", new GrudgeIce().misses(-1), 0);
        due("all of six", of(families(99, 0, 99, 0, 99, 0, 99, 0, 99, 0, 99, 0)).misses(63), 594);
    }

    private static void tight() {
        sentence("TIGHT: of the sets of families that MISS some that of the most families (of several the least as bits); 0, if none does.");
        due("without families", new GrudgeIce().tight(), 0);
        due("one that wants", of(families(1, 0)).tight(), 1);
        due("one that does not", of(families(1, 1)).tight(), 0);
        due("none needs any", of(families(0, 0, 0, 0)).tight(), 0);
        due("just enough", of(families(0, 0, 0, 0, 9, 0), grudges("01:9")).tight(), 0);
        due("too little by one", of(families(0, 0, 0, 0, 9, 0), grudges("01:8")).tight(), 7);
        due("all six", of(SIX).tight(), 63);
        // ice for 0: of 23 alone; for 1: of all but 12; 2 and 3 have larders
        GrudgeIce x = of(families(5, 0, 5, 0, 0, 0, 0, 0), grudges("23:5 02:4 03:4"));
        due("none: 5 of 23 and 8 for the other one", x.tight(), 0);
        GrudgeIce y = of(families(5, 0, 5, 0, 0, 0, 0, 0), grudges("12:4 23:0 03:5"));
        due("0 misses 1, with the others not all", y.misses(1), 1);
        due("the most families that do", y.tight(), 15);
        GrudgeIce z = of(families(9, 0, 9, 0, 0, 0), grudges("01:0 02:10 12:0"));
        due("0 and 2 may have nothing", z.misses(5), 9);
        due("all three, though 1 has enough", z.misses(2) * 10 + z.tight(), 7);
        GrudgeIce two = of(families(6, 0, 6, 0, 6, 0), grudges("01:7 02:7 12:7"));
        due("none of one, none of two", two.tight(), 0);
        GrudgeIce least = of(families(8, 0, 8, 0, 8, 0), grudges("01:7 02:7 12:7"));
        due("all three", least.tight(), 7);
        GrudgeIce ones = of(families(8, 0, 8, 0, 0, 9), grudges("12:7 02:7 01:30"));
        due("0 misses some, 1 too", ones.misses(1) * 10 + ones.misses(2), 11);
        due("both", ones.misses(3), 2);
        due("with 2 there is the third one's ice", ones.misses(5) + ones.misses(6) + ones.misses(7), 0);
        due("the greatest set that misses", ones.tight(), 3);
        GrudgeIce apart = of(families(8, 0, 0, 9, 8, 0), grudges("12:7 02:30 01:7"));
        due("0 and 1: one", apart.misses(1) * 100 + apart.misses(4) * 10 + apart.misses(5), 112);
        due("the greatest set that misses", apart.tight(), 5);
        GrudgeIce each = of(families(8, 0, 1, 0, 8, 0), grudges("12:7 02:1 01:7"));
        due("sets of two", each.misses(3) * 100 + each.misses(5) * 10 + each.misses(6), 121);
        due("all of them", each.tight(), 7);
    }

    private static void tightTies() {
        sentence("(of several the least as bits)");
        GrudgeIce tie = of(families(10, 0, 0, 0, 0, 0), grudges("01:9 02:9"));
        due("0 with 1, 0 with 2", tie.misses(3) * 10 + tie.misses(5), 11);
        due("not all three", tie.misses(7), 0);
        due("the least of both", tie.tight(), 3);
        GrudgeIce last = of(families(0, 0, 0, 0, 10, 0), grudges("21:9 20:9"));
        due("the least of 101 and 110", last.tight(), 5);
        GrudgeIce x = of(families(8, 0, 8, 0, 8, 0), grudges("01:20 02:20 12:7"));
        due("0 alone misses", x.misses(1) * 100 + x.misses(2) * 10 + x.misses(4), 100);
        due("one family", x.tight(), 1);
        GrudgeIce y = of(families(8, 0, 8, 0, 8, 0), grudges("01:20 02:7 12:7"));
        due("0 and 1", y.misses(3), 2);
        due("the pair", y.tight(), 3);
        GrudgeIce z = of(families(0, 0, 8, 0, 8, 0), grudges("01:7 02:7 12:20"));
        due("1 and 2 miss one each", z.misses(2) * 10 + z.misses(4), 11);
        due("the pair", z.tight(), 6);
        GrudgeIce u = of(families(0, 0, 8, 0, 5, 0), grudges("01:9 02:7 12:20"));
        due("2 has enough", u.misses(2) * 10 + u.misses(4) + u.misses(6), 10);
        due("1 alone", u.tight(), 2);
    }

    private static void thaw() {
        sentence("THAW of X (0 to 999): of sets of GRUDGES to be let thaw so that COLD, STORE left out, is X at least without them, the one by "
                + "which the most pairs of families have no GRUDGE between them (either way) then: the fewest GRUDGES, of several the least "
                + "as bits; none, if there is too little now;");
        GrudgeIce none = of(SIX, "store 999");
        due("no grudges", none.thaw(0), 0);
        due("store left out", none.thaw(1), -1);
        GrudgeIce x = of(SIX, grudges("01:10 23:10 45:20"), "store 999");
        int[][] rows = {{0, 7}, {1, 3}, {10, 3}, {11, 3}, {20, 3}, {21, 1}, {30, 1}, {31, 0}, {40, 0}, {41, -1}, {999, -1}};
        for (int[] row : rows) due("thaw " + row[0], x.thaw(row[0]), row[1]);
        for (int n : new int[] {-1, 1000, Integer.MIN_VALUE, Integer.MAX_VALUE}) noNumber("thaw " + n, () -> x.thaw(n));
        GrudgeIce y = of(SIX, grudges("01:10 10:10 12:10"));
        int[][] pairs = {{0, 7}, {1, 4}, {10, 4}, {11, 4}, {20, 4}, {21, 0}, {30, 0}, {31, -1}};
        for (int[] row : pairs) due("either way " + row[0], y.thaw(row[0]), row[1]);
        GrudgeIce z = of(SIX, grudges("01:0 10:0 23:0"));
        due("ice 0, all pairs", z.thaw(0), 7);
        GrudgeIce thrice = of(SIX, grudges("01:5 01:5 01:5 23:9"));
        due("one thawed alone of three brings nothing", thrice.thaw(10), 8);
        due("three for one pair", thrice.thaw(9), 8);
        due("both pairs", thrice.thaw(0), 15);
        due("too much by one for any", thrice.thaw(16), 0);
        due("just now", thrice.thaw(24), 0);
        due("too little now", thrice.thaw(25), -1);
        GrudgeIce full = of(SIX, times(10, "grudge 0 1 over a ice 999"));
        due("999 of ten", full.thaw(999), 0);
        due("all ten", full.thaw(0), 1023);
        GrudgeIce one = of(SIX, "grudge 0 1 over a ice 999");
        due("just 999", one.thaw(999), 0);
        one.saw(0, 2, 1);
        due("998", one.thaw(999), -1);
        due("998", one.thaw(998), 0);
    }

    /** Two GRUDGES each: between two pairs of families one of both can be let thaw, between one pair neither alone. */
    private static void pairs() {
        sentence("the most pairs of families have no GRUDGE between them (either way)");
        for (int a = 0; a < 36; a++) {
            for (int b = 0; b < 36; b++) {
                int from = a / 6, to = a % 6, from2 = b / 6, to2 = b % 6;
                if (from == to || from2 == to2) continue;
                boolean alike = from == from2 && to == to2 || from == to2 && to == from2;
                String told = from + "" + to + ":10 " + from2 + to2 + ":10";
                GrudgeIce x = of(SIX, grudges(told));
                due("of 20 ten " + told, x.thaw(10), alike ? 0 : 1);
                due("all " + told, x.thaw(0), 3);
                due("friends " + told, x.friends(), alike ? 14 : 13);
            }
        }
        GrudgeIce ten = of(SIX, grudges("01:1 02:2 30:4 40:8 05:16 12:32 31:64 14:128 51:256 23:488"));
        for (int x = 0; x <= 999; x += 37) {
            int due = 0;
            for (int set = 0; set < 1024; set++) {
                int left = 0;
                for (int g = 0; g < 10; g++) if ((set >> g & 1) == 0) left += g < 9 ? 1 << g : 488;
                if (left >= x && Integer.bitCount(set) > Integer.bitCount(due)) due = set;
            }
            due("ten pairs " + x, ten.thaw(x), due);
        }
    }

    private static void friends() {
        sentence("FRIENDS: how many such pairs there are now.");
        int[] due = {0, 0, 1, 3, 6, 10, 15};
        for (int n = 0; n <= 6; n++) due("of " + n + " families", of(n == 0 ? "" : times(n, "family pride 1 needs 1")).friends(), due[n]);
        GrudgeIce x = of(SIX, grudges("01:1 10:1 01:1"));
        due("one pair, either way", x.friends(), 14);
        x.forgive(0);
        x.forgive(2);
        due("the other way still", x.friends(), 14);
        x.forgive(1);
        due("friends again", x.friends(), 15);
        due("ten pairs", of(SIX, grudges("01:1 20:1 03:1 40:1 05:1 21:1 13:1 41:1 15:1 23:1")).friends(), 5);
        due("the last pair", of(SIX, grudges("45:1")).friends(), 14);
        due("two alone", of("family pride 1 needs 1;family pride 1 needs 1", grudges("10:0")).friends(), 0);
    }

    private static void camps() {
        sentence("CAMPS: families parted into two camps so that the fewest GRUDGES are within a camp: those of the second camp (family 0 is of "
                + "the first one), of several the least as bits; how many GRUDGES.");
        due("without families", new GrudgeIce().camps(false) + new GrudgeIce().camps(true), 0);
        due("of one", of("family pride 1 needs 1").camps(false), 0);
        due("of two without grudges", of("family pride 1 needs 1;family pride 1 needs 1").camps(false), 0);
        String[] rows = {"01:1", "10:1", "45:1", "12:1", "05:1", "01:1 12:1", "01:1 12:1 20:1", "01:1 23:1 45:1", "12:1 23:1 34:1 45:1 51:1",
            "01:1 02:1 03:1 04:1 05:1", "01:1 01:1 12:1 20:1", "12:1 12:1 20:1 01:1", "20:1 02:1 01:1 12:1 45:1 54:1"};
        int[] second = {2, 2, 16, 2, 32, 2, 2, 2 + 4 + 16, 2 + 8, 62, 2, 2, 4 + 16};
        int[] many = {0, 0, 0, 0, 0, 0, 1, 0, 1, 0, 1, 1, 1};
        for (int i = 0; i < rows.length; i++) {
            GrudgeIce x = of(SIX, grudges(rows[i]));
            due("second camp of " + rows[i], x.camps(false), second[i]);
            due("within a camp of " + rows[i], x.camps(true), many[i]);
        }
        due("ten of one pair", of(SIX, times(10, "grudge 0 5 over a ice 1")).camps(true), 0);
        due("a ring of five of ten", of(SIX, grudges("01:1 10:1 12:1 21:1 23:1 32:1 34:1 43:1 40:1 04:1")).camps(true), 2);
    }

    // ---- CUTS

    private static int cuts(GrudgeIce x, boolean likely, int... bytes) {
        tape(x, bytes(bytes));
        int answer = x.cuts(likely);
        due("the tape is used up", x.end(1), false);
        return answer;
    }

    private static int ask(GrudgeIce x, int... bytes) {
        tape(x, bytes(bytes));
        int answer = x.ask();
        due("the tape is used up", x.end(1), false);
        return answer;
    }

    private static byte[] bytes(int... bytes) {
        byte[] row = new byte[bytes.length];
        for (int i = 0; i < bytes.length; i++) row[i] = (byte) bytes[i];
        return row;
    }

    private static void cuts() {
        sentence("CUTS: told are rows: what was cut (0 BITTER, 1 DEEP) and how much it was (0 to 9); at most one row may be wrong: SLIGHTS "
                + "(of all eight) that fit, as bits;");
        GrudgeIce x = of("slight a bitter 9 deep 0;slight b bitter 9 deep 9;slight c bitter 0 deep 9;slight d bitter 4 deep 4");
        due("no rows: all eight", cuts(x, false), 255);
        due("one row: it may be wrong", cuts(x, false, 0, 9), 255);
        due("one row", cuts(x, false, 1, 5), 255);
        due("two rows", cuts(x, false, 0, 9, 1, 9), 1 + 2 + 4);
        due("two alike", cuts(x, false, 0, 9, 0, 9), 3);
        due("three", cuts(x, false, 0, 9, 1, 9, 0, 9), 3);
        due("three", cuts(x, false, 0, 9, 1, 9, 1, 9), 2 + 4);
        due("four", cuts(x, false, 0, 9, 1, 9, 1, 9, 0, 9), 2);
        due("one wrong of four", cuts(x, false, 0, 4, 1, 4, 0, 5, 1, 4), 8);
        due("two wrong of four", cuts(x, false, 0, 4, 1, 5, 0, 5, 1, 4), 0);
        due("the untold ones", cuts(x, false, 0, 0, 1, 0), 1 + 4 + 240);
        due("the untold ones", cuts(x, false, 0, 0, 1, 0, 0, 0), 4 + 240);
        int[] most = new int[40];
        due("40 bytes", cuts(x, false, most), 4 + 240);
        most[39] = 9;
        due("the last row is wrong", cuts(x, false, most), 4 + 240);
        most[1] = 9;
        due("the first one, too", cuts(x, false, most), 0);
    }

    private static void wrongCuts() {
        sentence("Uses the TAPE up: CUTS (of each two bytes: what was cut, how much; at most 40 bytes): SLIGHTS, as bits (likely false), or "
                + "LIKELY; NONE. IllegalArgumentException: the TAPE is not that (none may be told).");
        int[][] wrong = {{0}, {1}, {0, 1, 0}, {2, 0}, {255, 0}, {128, 0}, {0, 10}, {1, 10}, {0, 255}, {0, 128}, {0, 0, 2, 0}, {0, 0, 0, 10},
            {1, 9, 1, 9, 1}, new int[41], new int[42], new int[60], new int[400], "00".chars().toArray()};
        for (int[] row : wrong) {
            for (int call = 0; call < 3; call++) {
                GrudgeIce x = new GrudgeIce();
                tape(x, bytes(row));
                int which = call;
                noNumber(row.length + " bytes", () -> which == 0 ? x.cuts(false) : which == 1 ? x.cuts(true) : x.ask());
                due("the tape is used up", x.end(1), false);
                due("it is no text", x.fault(), -1);
            }
        }
        int[][] right = {{}, {0, 0}, {1, 9}, {0, 9, 1, 0}, new int[40]};
        for (int[] row : right) {
            GrudgeIce x = new GrudgeIce();
            due("all eight", cuts(x, false, row), 255);
            due("the least", cuts(x, true, row), 0);
            due("none to part them", ask(x, row), 0);
        }
    }

    private static void likely() {
        sentence("LIKELY: of these the one that the most GRUDGES are over (of several the least; none);");
        GrudgeIce x = of(SIX, "slight a bitter 9 deep 9;slight b bitter 9 deep 1;slight c bitter 9 deep 1;slight h bitter 8 deep 8",
                "grudge 0 1 over c ice 1;grudge 0 2 over b ice 1;grudge 0 3 over h ice 1;grudge 0 4 over h ice 1");
        due("of all", cuts(x, true), 7);
        due("of those that fit", cuts(x, true, 0, 9, 0, 9), 1);
        due("of several the least", cuts(x, true, 1, 1, 1, 1), 1);
        due("over which there are none", cuts(x, true, 1, 9, 1, 9), 0);
        due("none fits", cuts(x, true, 1, 7, 1, 7), -1);
        x.forgive(1);
        due("of those that are left", cuts(x, true, 0, 9, 0, 9), 2);
        x.forgive(0);
        due("none is over these", cuts(x, true, 0, 9, 0, 9), 0);
        due("none is over these", cuts(x, true, 1, 1, 1, 1), 1);
        x.forgive(2);
        x.forgive(3);
        due("none is over any", cuts(x, true), 0);
        due("the last alone", cuts(x, true, 0, 8, 0, 8), 7);
        due("without grudges", cuts(new GrudgeIce(), true), 0);
    }

    private static void asking() {
        sentence("ASK: what to cut (0, 1), by which those that fit are parted so that the greatest part is the least (of several the least; "
                + "none with fewer than two).");
        GrudgeIce x = of("slight a bitter 1 deep 9;slight b bitter 1 deep 8;slight c bitter 2 deep 8;slight d bitter 2 deep 7",
                "slight e bitter 3 deep 7;slight f bitter 3 deep 7;slight g bitter 4 deep 7;slight h bitter 5 deep 6");
        due("of all: parts of 2 or of 4", ask(x), 0);
        due("one fits", ask(x, 0, 5, 0, 5), -1);
        due("none fits", ask(x, 0, 9, 0, 9), -1);
        due("two: bitter 1, deep 9 or 8", ask(x, 0, 1, 0, 1), 1);
        due("two, alike in both", ask(x, 0, 3, 0, 3), 0);
        due("two: deep 8, bitter 1 or 2", ask(x, 1, 8, 1, 8), 0);
        due("a, b, c: parts of 2 and of 2", ask(x, 0, 1, 1, 8), 0);
        due("no slight is told", ask(new GrudgeIce()), 0);
        GrudgeIce deep = of("slight a bitter 0 deep 9");
        due("parts of 8 and of 7", ask(deep), 1);
        GrudgeIce bitter = of("slight h bitter 9 deep 0");
        due("parts of 7 and of 8", ask(bitter), 0);
        GrudgeIce ends = of("slight a bitter 0 deep 5;slight b bitter 9 deep 5;slight c bitter 5 deep 5;slight d bitter 5 deep 5");
        due("bitter 0 and 9 are parts as well", ask(ends, 1, 5, 1, 5), 0);
        GrudgeIce nines = of("slight a bitter 9 deep 1;slight b bitter 9 deep 2;slight c bitter 9 deep 3", "slight d bitter 9 deep 3");
        due("a part of nines is one", ask(nines, 0, 9, 0, 9), 1);
        GrudgeIce both = of("slight a bitter 1 deep 1;slight h bitter 1 deep 2");
        due("the first and the last slight", ask(both, 0, 1, 0, 1), 1);
        GrudgeIce zeros = of("slight a bitter 1 deep 9;slight b bitter 2 deep 9");
        due("a part of zeros is one", ask(zeros), 0);
    }

    // ---- sharing

    private static void shares() {
        sentence("SHARES of N (0 to 999): N is shared out by ones, each to the family that had the fewest of these so far, and fewer than its "
                + "NEEDS (of several the least); what is left then to nobody: how many a family has.");
        GrudgeIce x = of(families(2, 99, 0, 0, 3, 0, 1, 0, 0, 0, 3, 0));
        int[][] rows = {{0, 0, 0, 0, 0, 0, 0}, {1, 1, 0, 0, 0, 0, 0}, {2, 1, 0, 1, 0, 0, 0}, {3, 1, 0, 1, 1, 0, 0}, {4, 1, 0, 1, 1, 0, 1},
            {5, 2, 0, 1, 1, 0, 1}, {6, 2, 0, 2, 1, 0, 1}, {7, 2, 0, 2, 1, 0, 2}, {8, 2, 0, 3, 1, 0, 2}, {9, 2, 0, 3, 1, 0, 3},
            {10, 2, 0, 3, 1, 0, 3}, {999, 2, 0, 3, 1, 0, 3}};
        for (int[] row : rows) {
            for (int f = 0; f < 6; f++) due(row[0] + " for " + f, x.shares(f, row[0]), row[f + 1]);
        }
        for (int n : new int[] {-1, 1000, Integer.MIN_VALUE, Integer.MAX_VALUE}) noNumber("shares of " + n, () -> x.shares(0, n));
        for (int f : new int[] {-1, 6, Integer.MIN_VALUE, Integer.MAX_VALUE}) {
            noSuch("shares of family " + f, () -> x.shares(f, 0));
            noSuch("shares of family " + f, () -> x.shares(f, -1));
        }
        GrudgeIce full = of(families(99, 0, 99, 0, 99, 0, 99, 0, 99, 0, 99, 0));
        due("the last but one", full.shares(5, 593), 98);
        due("the last", full.shares(5, 594), 99);
        due("no more", full.shares(0, 999), 99);
        noSuch("without families", () -> new GrudgeIce().shares(0, 0));
    }

    private static boolean swaps(int needs, int larder, int needs2, int larder2) {
        GrudgeIce x = of(families(needs, larder, needs2, larder2));
        due("both ways alike", x.swap(1, 0), x.swap(0, 1));
        return x.swap(0, 1);
    }

    private static void swap() {
        sentence("SWAP of two: whether to each of both the other one's LARDER is worth more than its own (a LARDER is worth to one as much as "
                + "it holds, but 2 less for each that it holds above 3 times its NEEDS).");
        due("9 of needs 3 is worth 9, 8 is 8", swaps(99, 8, 3, 9), false);
        due("10 of needs 3 is worth 8, 8 is 8", swaps(99, 8, 3, 10), false);
        due("11 of needs 3 is worth 7, 8 is 8", swaps(99, 8, 3, 11), true);
        due("10 of needs 3 is worth 8, 9 is 9", swaps(99, 9, 3, 10), true);
        due("to the first one 9 is no more than 9", swaps(99, 9, 3, 9), false);
        due("to the first one 9 is less than 10", swaps(99, 10, 3, 9), false);
        due("needs 0: 5 is worth 5 less, 4 is 4 less", swaps(99, 4, 0, 5), true);
        due("needs 0: 5 is 5 less, nothing is nothing", swaps(99, 0, 0, 5), true);
        due("needs 0, both: each would have less", swaps(0, 4, 0, 5), false);
        due("999 to needs 0 is 999 less", swaps(99, 0, 0, 999), false);
        due("594 to needs 99 is nothing", swaps(99, 0, 0, 594), false);
        due("593 to needs 99 is one", swaps(99, 0, 0, 593), true);
        due("297 to needs 99 is 297", swaps(99, 296, 0, 297), true);
        due("298 to needs 99 is 296", swaps(99, 296, 0, 298), false);
        GrudgeIce x = of(families(9, 9, 9, 9));
        for (int f = 0; f < 2; f++) {
            int family = f;
            noNumber("both are one", () -> x.swap(family, family));
        }
        for (int f : new int[] {-1, 2, Integer.MIN_VALUE, Integer.MAX_VALUE}) {
            noSuch("swap of " + f, () -> x.swap(f, 0));
            noSuch("swap with " + f, () -> x.swap(0, f));
            noSuch("both are none", () -> x.swap(f, f));
        }
    }

    private static void price() {
        sentence("PRICE of a family: GIVES by 10, rounded down, and PRIDE, less OFF (0 at least).");
        int[][] rows = {{0, 0, 0}, {9, 0, 0}, {10, 0, 1}, {19, 0, 1}, {20, 0, 2}, {999, 9, 108}, {9, 9, 9}, {0, 9, 9}};
        for (int[] row : rows) {
            GrudgeIce x = of("family pride " + row[1] + " needs 1;family pride 5 needs 1", "grudge 0 1 over a ice " + row[0]);
            due("gives " + row[0] + " pride " + row[1], x.family(0, 6), row[2]);
        }
        GrudgeIce x = of("family pride 3 needs 1;family pride 0 needs 0", "heat spring 0;heat summer 0;heat autumn 0;heat winter 0",
                "grudge 0 1 over a ice 29");
        int[] due = {5, 4, 3, 2, 1, 0, 0, 0};
        for (int n = 0; n < 8; n++) {
            due("off " + n, x.family(0, 6), due[n]);
            due("the other one", x.family(1, 6), 2);
            x.seasons(1);
        }
        due("two of 15 are 30 together", of("family pride 0 needs 1;family pride 0 needs 0", grudges("01:15 10:15")).family(0, 6), 3);
    }

    private static int rests(int pride, int bitter, int deep) {
        GrudgeIce x = of("family pride 5 needs 1;family pride " + pride + " needs 1",
                "slight c bitter " + bitter + " deep " + deep, "grudge 1 0 over c ice 0");
        return x.rests(0);
    }

    private static void rests() {
        sentence("RESTS of a GRUDGE: FROM nurses (0) or forgives (1), TO insults (0) or kisses (1), unseen:");
        for (int pride = 0; pride <= 9; pride += 3) {
            for (int bitter = 0; bitter <= 9; bitter += 3) {
                for (int deep = 0; deep <= 9; deep++) {
                    int[] from = {bitter, -1, -pride, deep / 2};
                    int[] to = {2, -3, 4, deep / 2};
                    int bits = 0;
                    for (int c = 0; c < 4; c++) {
                        if (from[c] >= from[c ^ 2] && to[c] >= to[c ^ 1]) bits |= 1 << c;
                    }
                    due("pride " + pride + " bitter " + bitter + " deep " + deep, rests(pride, bitter, deep), bits);
                }
            }
        }
        due("bitter as much as less pride", rests(0, 0, 7), 1 + 4);
        due("deep 8 by 2 is 4: as much as forgiving an insult", rests(0, 1, 8), 1 + 8);
        due("deep 7 by 2 is 3", rests(0, 1, 7), 1);
        due("all but nursing a kiss", rests(0, 0, 9), 1 + 4 + 8);

        sentence("as bits; none, if it is THAWED.");
        GrudgeIce x = of(SIX, grudges("01:9 12:3 23:9"));
        x.forgive(0);
        x.seasons(1);
        due("forgiven", x.rests(0), -1);
        due("thawed by a season", x.rests(1), -1);
        due("not thawed", x.rests(2), 1);
        for (int g : new int[] {-1, 3, 10, Integer.MIN_VALUE, Integer.MAX_VALUE}) noSuch("rests of " + g, () -> x.rests(g));
    }

    private static void odds() {
        sentence("ODDS of N SEASONS (0 to 6) and K (0 to 6): that there are K kisses at least, each SEASON alike, in ten thousandths, rounded "
                + "down.");
        int[][] rows = {{0, 0, 0, 10000}, {0, 6, 0, 10000}, {0, 6, 1, 0}, {100, 6, 6, 10000}, {100, 0, 0, 10000}, {100, 0, 1, 0},
            {100, 5, 6, 0}, {50, 6, 6, 156}, {50, 6, 1, 9843}, {50, 6, 0, 10000}, {50, 1, 1, 5000}, {50, 1, 2, 0}, {1, 6, 6, 0}, {1, 2, 2, 1},
            {1, 1, 1, 100}, {99, 6, 6, 9414}, {99, 6, 1, 9999}, {99, 2, 1, 9999}, {99, 6, 5, 9985}, {33, 3, 2, 2548}, {7, 6, 3, 58}};
        for (int[] row : rows) due("kiss " + row[0] + " n " + row[1] + " k " + row[2], of("kiss " + row[0]).odds(row[1], row[2]), row[3]);
        GrudgeIce x = of("kiss 50");
        for (int n : new int[] {-1, 7, Integer.MIN_VALUE, Integer.MAX_VALUE}) {
            noNumber("n " + n, () -> x.odds(n, 0));
            noNumber("k " + n, () -> x.odds(0, n));
            noNumber("k " + n, () -> x.odds(6, n));
            noNumber("both " + n, () -> x.odds(n, n));
        }
        for (int n = 0; n <= 6; n++) {
            for (int k = 0; k <= 6; k++) {
                int good = 0;
                for (int bits = 0; bits < 1 << n; bits++) if (Integer.bitCount(bits) >= k) good++;
                due("half n " + n + " k " + k, x.odds(n, k), good * 10000 / (1 << n));
            }
        }
    }

    // ---- lists

    private static void oldest() {
        sentence("OLDEST: the GRUDGE of the most AGE (of several the least; none).");
        due("none", of(SIX).oldest(), -1);
        due("age 0", of(SIX, grudges("01:1")).oldest(), 0);
        due("of several", of(SIX, grudges("01:1 12:1")).oldest(), 0);
        GrudgeIce x = of(SIX, "grudge 0 1 over a ice 9 age 98;grudge 0 1 over a ice 9 age 99;grudge 0 1 over a ice 9 age 99;"
                + "grudge 0 1 over a ice 9 age 3");
        int[] due = {1, 2, 0, 3, -1};
        for (int n = 0; n < 5; n++) {
            due("oldest", x.oldest(), due[n]);
            if (due[n] >= 0) x.forgive(due[n]);
        }
    }

    private static void blue() {
        sentence("BLUE: GRUDGES whose ICE is 100 at least, as bits. NURSED ones, as bits. MUTUAL ones, as bits. OVER a SLIGHT: GRUDGES over it, "
                + "as bits.");
        due("none", of(SIX).blue() + of(SIX).nursed() + of(SIX).mutual() + of(SIX).slight(0, 2), 0);
        GrudgeIce x = of(SIX, grudges("01:99 12:100 23:101 34:999 45:0 50:100"));
        due("blue", x.blue(), 2 + 4 + 8 + 32);
        x.forgive(1);
        x.saw(5, 2, 1);
        due("blue", x.blue(), 4 + 8);
        GrudgeIce ten = of(SIX, times(10, "grudge 0 1 over h ice 100 nursed"));
        due("all ten", ten.blue(), 1023);
        due("all ten", ten.nursed(), 1023);
        due("all ten", ten.slight(7, 2), 1023);
        due("of another slight", ten.slight(0, 2), 0);
        due("the same way is not mutual", ten.mutual(), 0);
        ten.forgive(9);
        ten.nurse(0, false);
        due("nursed", ten.nursed(), 511 - 1);
        due("over", ten.slight(7, 2), 511);
        GrudgeIce y = of(SIX, grudges("01:1 10:0 01:1 12:1 20:1 34:1 43:1"));
        due("mutual", y.mutual(), 7 + 32 + 64);
        y.forgive(1);
        due("mutual", y.mutual(), 32 + 64);
        y.forgive(5);
        due("mutual", y.mutual(), 0);
    }

    private static void proud() {
        sentence("PROUD: the family of the most PRIDE (of several the least; none). OFFS: families whose OFF is above 0, as bits.");
        due("none", new GrudgeIce().proud(), -1);
        due("no offs", new GrudgeIce().offs(), 0);
        int[][] rows = {{0, 0}, {9, 0}, {0, 0, 0}, {0, 1, 1}, {1, 0, 0}, {9, 9, 0}, {8, 9, 1}, {3, 5, 5, 4, 1}, {0, 0, 0, 0, 0, 9, 5}};
        for (int[] row : rows) {
            StringBuilder told = new StringBuilder();
            for (int f = 0; f < row.length - 1; f++) told.append(f > 0 ? ";" : "").append("family pride ").append(row[f]).append(" needs ").append(f % 2);
            GrudgeIce x = of(told.toString());
            due("proud", x.proud(), row[row.length - 1]);
            due("off 0", x.offs(), 0);
            x.seasons(1);
            due("off 1", x.offs(), 42 & (1 << row.length - 1) - 1);
        }
    }

    private static void share() {
        sentence("SHARE of a GRUDGE of ICE of all, in hundredths, rounded down (0 without). TWINS: pairs of GRUDGES of like SLIGHT and AGE: "
                + "how many.");
        due("without ice", of(SIX, grudges("01:0 12:0")).grudge(1, 10), 0);
        due("all of it", of(SIX, grudges("01:0 12:1")).grudge(1, 10), 100);
        due("none of it", of(SIX, grudges("01:0 12:1")).grudge(0, 10), 0);
        int[][] rows = {{1, 2, 33}, {2, 1, 66}, {1, 99, 1}, {1, 100, 0}, {199, 1, 99}, {999, 999, 50}};
        for (int[] row : rows) due(row[0] + " of both", of(SIX, grudges("01:" + row[0] + " 12:" + row[1])).grudge(0, 10), row[2]);
        due("store is none of it", of(SIX, grudges("01:5 12:5"), "store 990").grudge(0, 10), 50);
        due("one of ten", of(SIX, times(10, "grudge 0 1 over a ice 999")).grudge(9, 10), 10);

        due("none", of(SIX).twins(), 0);
        due("one alone", of(SIX, grudges("01:1")).twins(), 0);
        due("all ten", of(SIX, times(10, "grudge 0 1 over a ice 9")).twins(), 45);
        GrudgeIce x = of(SIX, "grudge 0 1 over a ice 9 age 98;grudge 2 3 over a ice 1 age 99;grudge 0 1 over b ice 9 age 98;"
                + "grudge 4 5 over a ice 50 age 98");
        due("0 and 3", x.twins(), 1);
        x.seasons(1);
        due("0 and 3: the second is thawed", x.twins(), 1);
        x.forgive(3);
        due("none", x.twins(), 0);
        GrudgeIce y = of(SIX, "grudge 0 1 over a ice 9 age 98;grudge 2 3 over a ice 9 age 99");
        due("not yet", y.twins(), 0);
        y.seasons(1);
        due("99 at most, both", y.twins(), 1);
    }

    public static void main(String[] args) {
        thawedCountForNothing();
        gives();
        keeps();
        misses();
        tight();
        tightTies();
        thaw();
        pairs();
        friends();
        camps();
        cuts();
        wrongCuts();
        likely();
        asking();
        shares();
        swap();
        price();
        rests();
        odds();
        oldest();
        blue();
        proud();
        share();
        end("AskBoundsTest");
    }
}
