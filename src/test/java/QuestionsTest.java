/** Promises 7, 19, 23 to 47: what is asked of the town as it is now. */
public final class QuestionsTest {
    private static final String FOUR = "family pride 7 needs 10 larder 25;family pride 3 needs 20;"
            + "family pride 9 needs 5 larder 40;family pride 1 needs 8 larder 8";

    private QuestionsTest() {
    }

    /** Six families of needs 30 and pride 1, 2, .. 6, each with a larder of its number. */
    private static String six() {
        StringBuilder b = new StringBuilder();
        for (int f = 0; f < 6; f++) {
            b.append(f > 0 ? ";" : "").append("family pride ").append(f + 1).append(" needs 30 larder ").append(f);
        }
        return b.toString();
    }

    /** Grudges of ten ice each: "01 12" is one of 0 to 1 and one of 1 to 2. */
    private static String grudges(String pairs) {
        StringBuilder b = new StringBuilder();
        for (String pair : pairs.split(" ")) {
            b.append(b.length() > 0 ? ";" : "").append("grudge ").append(pair.charAt(0)).append(' ');
            b.append(pair.charAt(1)).append(" over a ice 10");
        }
        return b.toString();
    }

    private static void ice() {
        GrudgeIce x = Checks.of(FOUR, "grudge 0 1 over a ice 30;grudge 1 0 over b ice 120;grudge 1 2 over a ice 99;store 40");
        int[] gives = {150, 249, 99, 0};
        int[] prices = {22, 27, 18, 1};
        for (int f = 0; f < 4; f++) {
            Checks.due("gives", x.family(f, 4), gives[f]);
            Checks.due("price", x.family(f, 6), prices[f]);
        }
        Checks.due("cold", x.cold(), 289);
        Checks.due("blue", x.blue(), 2);
        int[] shares = {12, 48, 39};
        for (int g = 0; g < 3; g++) Checks.due("share", x.grudge(g, 10), shares[g]);
        x.insult(1, 2, 7);
        Checks.due("blue", x.blue(), 6);
        x.forgive(1);
        Checks.due("cold", x.cold(), 30 + 109 + 40);
        Checks.due("blue", x.blue(), 4);
        Checks.due("gives", x.family(0, 4), 30);
        x.seasons(60);
        Checks.due("price 0 at least", x.family(1, 6), 0);
        Checks.due("just 100", Checks.of(FOUR, "grudge 0 1 over a ice 100").blue(), 1);
    }

    private static void keeping() {
        GrudgeIce x = Checks.of(six(), grudges("01 02 03"));
        // 0 may have none of these; the wants are 30, 29, .. 25
        Checks.due("keeps all", x.keeps(), 30);
        Checks.due("tight is all", x.tight(), 63);
        Checks.due("misses of 0", x.misses(1), 30);
        Checks.due("misses of 1", x.misses(2), 9);
        Checks.due("misses of 1 and 2", x.misses(6), 27);
        Checks.due("misses of 4", x.misses(16), 0);
        Checks.due("misses of all", x.misses(-1), 165 - 30);
        Checks.due("bits beyond", x.misses(64 | 1), 30);
        Checks.due("bits beyond alone", x.misses(-64), 0);
        GrudgeIce y = Checks.of("family pride 1 needs 30;family pride 1 needs 5;family pride 1 needs 5",
                "grudge 0 1 over a ice 9;grudge 0 2 over a ice 2;grudge 1 2 over a ice 12");
        // 0: of the third; 1: of the second; 2: of the first
        Checks.due("keeps", y.keeps(), 12 + 2 + 5);
        Checks.due("tight", y.tight(), 7);
        Checks.town(y, "store 99");
        y.deliver(0, 18);
        Checks.due("keeps", y.keeps(), 12 + 2 + 5);
        Checks.due("tight", y.tight(), 3);
        y.deliver(1, 5);
        Checks.due("keeps", y.keeps(), 12 + 5);
        Checks.due("tight", y.tight(), 0);
        GrudgeIce z = Checks.of("family pride 1 needs 9;family pride 1 needs 9;family pride 1 needs 0;family pride 1 needs 9",
                "grudge 2 0 over a ice 10;grudge 2 1 over a ice 10;grudge 2 3 over a ice 4");
        Checks.due("none eats its own", z.keeps(), 24);
        Checks.due("tight", z.tight(), 15);
        z.forgive(2);
        Checks.due("thawed ones count for nothing", z.keeps(), 20);
        Checks.due("larders above the needs", Checks.of("family pride 1 needs 9 larder 10;family pride 1 needs 9",
                "grudge 0 1 over a ice 9").keeps(), 0);
        GrudgeIce u = Checks.of("family pride 1 needs 9;family pride 1 needs 9;family pride 1 needs 9");
        Checks.due("the least as bits of one size", Checks.of("family pride 1 needs 9;family pride 1 needs 0;family pride 1 needs 9",
                "grudge 0 1 over a ice 100;grudge 2 1 over a ice 100").tight(), 0);
        Checks.due("no ice", u.tight(), 7);
        Checks.town(u, "grudge 0 1 over a ice 50;grudge 0 2 over a ice 5;grudge 1 2 over a ice 8");
        Checks.due("one family", u.tight(), 3);
    }

    private static void thawing() {
        GrudgeIce x = Checks.of(FOUR, "grudge 0 1 over a ice 30;grudge 1 0 over b ice 120;grudge 1 2 over a ice 3;store 900");
        int[][] due = {{0, 7}, {1, 4}, {3, 4}, {31, 4}, {100, 4}, {150, 4}, {151, 0}, {153, 0}, {154, -1}, {999, -1}};
        for (int[] row : due) Checks.due("thaw " + row[0], x.thaw(row[0]), row[1]);
        Checks.due("friends", x.friends(), 4);
        for (int n : new int[] {-1, 1000}) Checks.noNumber("thaw " + n, () -> x.thaw(n));
        x.forgive(0);
        Checks.due("thawed ones are not let thaw", x.thaw(0), 6);
        Checks.due("friends", x.friends(), 4);
        x.forgive(1);
        Checks.due("friends", x.friends(), 5);
        GrudgeIce y = Checks.of(six(), grudges("01 02 03 10 45"));
        Checks.due("the fewest, then the least", y.thaw(30), 6);
        Checks.due("the fewest, then the least", y.thaw(40), 2);
        Checks.due("three for three pairs", y.thaw(20), 22);
        Checks.due("a fourth one brings no pair", y.thaw(10), 22);
        Checks.due("two for the last pair", y.thaw(0), 31);
        Checks.due("friends", y.friends(), 11);
    }

    private static void camps() {
        GrudgeIce x = Checks.of(six(), grudges("01 12 20 34 45 53"));
        Checks.due("fewest within", x.camps(true), 2);
        Checks.due("the least as bits", x.camps(false), 10);
        GrudgeIce y = Checks.of(six(), grudges("01 10 12 20"));
        Checks.due("grudges each count", y.camps(true), 1);
        Checks.due("second camp", y.camps(false), 2);
        Checks.due("no grudges", Checks.of(six()).camps(false), 0);
        x.forgive(0);
        Checks.due("thawed ones count for nothing", x.camps(true), 1);
    }

    private static void cuts() {
        GrudgeIce x = Checks.of("slight a bitter 4 deep 6;slight b bitter 4 deep 3;slight c bitter 1 deep 6;slight d bitter 2 deep 3",
                FOUR, "grudge 0 1 over c ice 1;grudge 0 2 over b ice 1;grudge 1 2 over c ice 1;grudge 3 2 over h ice 1");
        byte[][] rows = {{}, {0, 4}, {0, 4, 1, 6}, {0, 4, 1, 6, 0, 4}, {0, 4, 0, 4, 1, 6, 1, 6}, {0, 9, 0, 9}, {0, 0, 0, 0, 1, 9}};
        int[] fits = {255, 255, 7, 3, 1, 0, 240};
        int[] likely = {2, 2, 2, 1, 0, -1, 7};
        int[] ask = {0, 0, 0, 1, -1, -1, 0};
        for (int i = 0; i < rows.length; i++) {
            Checks.tape(x, rows[i]);
            Checks.due("fits " + i, x.cuts(false), fits[i]);
            Checks.due("the tape is used up", x.end(1), false);
            Checks.tape(x, rows[i]);
            Checks.due("likely " + i, x.cuts(true), likely[i]);
            Checks.tape(x, rows[i]);
            Checks.due("ask " + i, x.ask(), ask[i]);
            Checks.due("the tape is used up", x.end(1), false);
        }
        GrudgeIce nines = Checks.of("slight a bitter 9 deep 0;slight b bitter 9 deep 0;slight c bitter 9 deep 0;slight d bitter 9 deep 1",
                "slight e bitter 9 deep 2;slight f bitter 9 deep 3;slight g bitter 9 deep 4;slight h bitter 9 deep 5");
        Checks.tape(nines, new byte[0]);
        Checks.due("parts of 8 and 3", nines.ask(), 1);
        x.forgive(0);
        x.forgive(2);
        Checks.tape(x, new byte[0]);
        Checks.due("of several the least", x.cuts(true), 1);
        byte[][] wrong = {{0}, {0, 4, 1}, {2, 4}, {-1, 0}, {0, 10}, {1, 6, 1, -1}, new byte[42]};
        for (byte[] row : wrong) {
            Checks.tape(x, row);
            Checks.noNumber("cuts of a wrong tape", () -> x.cuts(false));
            Checks.due("the tape is used up", x.end(1), false);
            Checks.tape(x, row);
            Checks.noNumber("ask of a wrong tape", x::ask);
            Checks.due("the tape is used up", x.end(1), false);
        }
        Checks.tape(x, new byte[40]);
        Checks.due("40 bytes", x.cuts(false), 240);
        Checks.tape(x, "time");
        Checks.noNumber("a wrong text", x::town);
        Checks.tape(x, new byte[1]);
        Checks.noNumber("no text", x::ask);
        Checks.due("its fault is of the text", x.fault(), 4);
    }

    private static void rota() {
        Checks.due("none", new GrudgeIce().rota(), 0);
        Checks.due("just one", Checks.of("family pride 1 needs 1").rota(), -1);
        Checks.due("two", Checks.of("family pride 1 needs 1;family pride 1 needs 1").rota(), 1);
        GrudgeIce x = Checks.of(six());
        Checks.due("six", x.rota(), 3);
        x.insult(5, 2, 0);
        Checks.due("four", x.rota(), 2);
        x.insult(5, 0, 0);
        Checks.due("three", x.rota(), 2);
        x.insult(1, 0, 0);
        x.insult(3, 4, 0);
        Checks.due("all have one", x.rota(), 0);
        x.forgive(0);
        Checks.due("one has none", x.rota(), 1);
        Checks.due("0 has none", Checks.of(six(), grudges("12 34 51")).rota(), 1);
    }

    private static void webs() {
        GrudgeIce x = Checks.of(six(), grudges("01 12 23 31 43"));
        int[][] steps = {{0, 1, 2, 2, 3, -1}, {1, 0, 1, 1, 2, -1}};
        for (int f = 0; f < 2; f++) {
            for (int o = 0; o < 6; o++) {
                Checks.due("steps", x.steps(f, o), steps[f][o]);
                Checks.due("steps back", x.steps(o, f), steps[f][o]);
            }
        }
        boolean[] rings = {false, true, true, true, false, false};
        for (int f = 0; f < 6; f++) Checks.due("ring " + f, x.ring(f), rings[f]);
        Checks.due("feud", x.feud(), 5);
        Checks.due("between", x.between(), 17);
        x.forgive(2);
        Checks.due("steps", x.steps(0, 4), 3);
        Checks.due("no ring", x.ring(1), false);
        Checks.due("between", x.between(), 27);
        x.forgive(3);
        Checks.due("feud", x.feud(), 3);
        Checks.due("between", x.between(), 19);
        Checks.due("twice is not between", Checks.of(six(), grudges("01 01 23 32 45")).between(), 16);
        Checks.due("a ring of two", Checks.of(six(), grudges("01 10")).ring(1), true);
        Checks.due("not of two alike", Checks.of(six(), grudges("01 01")).ring(1), false);
        Checks.due("a line", Checks.of(six(), grudges("01 12 23 34 45")).steps(5, 0), 5);
        Checks.due("no feud", Checks.of(six()).feud(), 1);
        for (int f : new int[] {-1, 6}) {
            Checks.noSuch("steps", () -> x.steps(f, 0));
            Checks.noSuch("steps", () -> x.steps(0, f));
            Checks.noSuch("ring", () -> x.ring(f));
        }
    }

    private static void kisses() {
        GrudgeIce x = Checks.of(six());
        int[] first = {1, 0, 3, 2, 5, 4};
        Checks.due("how much", x.kisses(-1), 21);
        for (int f = 0; f < 6; f++) Checks.due("with whom", x.kisses(f), first[f]);
        Checks.town(x, grudges("01 10 32 54"));
        int[] second = {2, 4, 0, 5, 1, 3};
        Checks.due("how much", x.kisses(-1), 21);
        for (int f = 0; f < 6; f++) Checks.due("with whom", x.kisses(f), second[f]);
        GrudgeIce y = Checks.of("family pride 0 needs 0;family pride 5 needs 0;family pride 0 needs 0;family pride 5 needs 0",
                grudges("13"));
        int[] third = {1, 0, 3, 2};
        Checks.due("how much", y.kisses(-1), 10);
        for (int f = 0; f < 4; f++) Checks.due("with whom", y.kisses(f), third[f]);
        y.forgive(0);
        int[] fourth = {-1, 3, -1, 1};
        for (int f = 0; f < 4; f++) Checks.due("none is the least", y.kisses(f), fourth[f]);
        Checks.noSuch("kisses", () -> y.kisses(4));
        Checks.noSuch("kisses", () -> y.kisses(-2));
        GrudgeIce z = Checks.of("family pride 5 needs 0;family pride 1 needs 0", grudges("10"));
        Checks.due("nobody", z.kisses(-1), 0);
        Checks.due("nobody", z.kisses(0), -1);
    }

    private static void sharing() {
        GrudgeIce x = Checks.of(FOUR, "family pride 0 needs 0 larder 5");
        int[][] due = {{0, 0, 0, 0, 0, 0}, {1, 1, 0, 0, 0, 0}, {3, 1, 1, 1, 0, 0}, {10, 3, 3, 2, 2, 0}, {20, 5, 5, 5, 5, 0},
            {22, 6, 6, 5, 5, 0}, {43, 10, 20, 5, 8, 0}, {42, 10, 19, 5, 8, 0}, {999, 10, 20, 5, 8, 0}};
        for (int[] row : due) {
            for (int f = 0; f < 5; f++) Checks.due("share of " + row[0], x.shares(f, row[0]), row[f + 1]);
        }
        for (int n : new int[] {-1, 1000}) Checks.noNumber("shares " + n, () -> x.shares(0, n));
        for (int f : new int[] {-1, 5}) Checks.noSuch("shares of " + f, () -> x.shares(f, -1));

        // worth to 0: its own 25; 40 are 20; to 2: its own 40 are 10; 25 are 5
        Checks.due("swap", x.swap(0, 2), false);
        Checks.due("swap", x.swap(1, 2), true);
        Checks.due("swap back", x.swap(2, 1), true);
        Checks.due("swap alike", x.swap(0, 3), false);
        Checks.due("swap of nothing wanted", x.swap(4, 1), true);
        GrudgeIce y = Checks.of("family pride 1 needs 10 larder 30;family pride 1 needs 1 larder 31");
        Checks.due("just 3 times", y.swap(0, 1), false);
        Checks.due("like", Checks.of("family pride 1 needs 10 larder 5;family pride 1 needs 1 larder 5").swap(0, 1), false);
        GrudgeIce z = Checks.of("family pride 1 needs 10 larder 3;family pride 1 needs 1 larder 4");
        // to 0: its own 3 are 3, 4 are 4; to 1: its own 4 are 2, 3 are 3
        Checks.due("2 less for each above", z.swap(0, 1), true);
        GrudgeIce u = Checks.of("family pride 1 needs 10 larder 5;family pride 1 needs 2 larder 8");
        Checks.due("its own 8 are 4, 5 are 5", u.swap(0, 1), true);
        GrudgeIce v = Checks.of("family pride 1 needs 10 larder 3;family pride 1 needs 2 larder 8");
        Checks.due("its own 8 are 4, 3 are 3", v.swap(0, 1), false);
        Checks.noNumber("both are one", () -> x.swap(3, 3));
        Checks.noSuch("swap", () -> x.swap(5, 5));
        Checks.noSuch("swap", () -> x.swap(0, -1));
        Checks.noSuch("swap", () -> x.swap(-1, 0));
    }

    private static int rest(int pride, int bitter, int deep) {
        return Checks.of("family pride " + pride + " needs 0;family pride 9 needs 0",
                "slight a bitter " + bitter + " deep " + deep, "grudge 0 1 over a ice 9").rests(0);
    }

    private static void rests() {
        Checks.due("nursing an insult", rest(7, 4, 7), 1);
        Checks.due("and forgiving a kiss", rest(7, 4, 8), 9);
        Checks.due("a pride of 0, no bitter", rest(0, 0, 0), 5);
        Checks.due("all but nursing a kiss", rest(0, 0, 9), 13);
        Checks.due("pride is FROM's", rest(1, 0, 0), 1);
        GrudgeIce x = Checks.of(FOUR, "grudge 0 1 over a ice 9");
        x.forgive(0);
        Checks.due("thawed", x.rests(0), -1);
        for (int g : new int[] {-1, 1}) Checks.noSuch("rests", () -> x.rests(g));
    }

    private static void odds() {
        GrudgeIce x = Checks.of("kiss 33");
        int[][] due = {{0, 0, 10000}, {0, 1, 0}, {1, 0, 10000}, {1, 1, 3300}, {2, 1, 5511}, {2, 2, 1089}, {3, 2, 2548},
            {6, 0, 10000}, {6, 6, 12}, {6, 3, 3130}, {5, 6, 0}};
        for (int[] row : due) Checks.due("odds " + row[0] + " " + row[1], x.odds(row[0], row[1]), row[2]);
        for (int n : new int[] {-1, 7}) {
            Checks.noNumber("odds", () -> x.odds(n, 0));
            Checks.noNumber("odds", () -> x.odds(0, n));
        }
        GrudgeIce sure = Checks.of("kiss 100");
        GrudgeIce never = new GrudgeIce();
        for (int n = 0; n <= 6; n++) {
            for (int k = 0; k <= 6; k++) {
                Checks.due("sure", sure.odds(n, k), k <= n ? 10000 : 0);
                Checks.due("never", never.odds(n, k), k == 0 ? 10000 : 0);
            }
        }
    }

    private static void lists() {
        GrudgeIce x = Checks.of(six(), "grudge 0 1 over a ice 10 age 4 nursed;grudge 1 0 over b ice 10 age 9;grudge 1 2 over a ice 10 age 4",
                "grudge 3 1 over a ice 10 age 9 nursed;grudge 0 1 over b ice 10 age 9;grudge 2 3 over a ice 10 age 4;grudge 3 2 over c ice 9");
        Checks.due("oldest", x.oldest(), 1);
        Checks.due("nursed", x.nursed(), 9);
        Checks.due("mutual", x.mutual(), 1 + 2 + 16 + 32 + 64);
        Checks.due("over a", x.slight(0, 2), 1 + 4 + 8 + 32);
        Checks.due("over b", x.slight(1, 2), 2 + 16);
        Checks.due("twins", x.twins(), 3 + 1);
        x.forgive(1);
        Checks.due("oldest", x.oldest(), 3);
        Checks.due("mutual", x.mutual(), 32 + 64);
        Checks.due("twins", x.twins(), 3);
        x.forgive(0);
        Checks.due("nursed", x.nursed(), 8);
        Checks.due("over a", x.slight(0, 2), 4 + 8 + 32);
        Checks.due("twins", x.twins(), 1);
        Checks.due("proud", x.proud(), 5);
        Checks.due("of several the least", Checks.of("family pride 1 needs 0;family pride 4 needs 0;family pride 4 needs 0").proud(), 1);
        Checks.due("pride 0", Checks.of("family pride 0 needs 0").proud(), 0);
        Checks.due("age 0", Checks.of(six(), grudges("01 12")).oldest(), 0);
        Checks.due("offs", x.offs(), 0);
        x.seasons(1);
        Checks.due("offs", x.offs(), 63);
    }

    public static void main(String[] args) {
        ice();
        keeping();
        thawing();
        camps();
        cuts();
        rota();
        webs();
        kisses();
        sharing();
        rests();
        odds();
        lists();
        Checks.end("QuestionsTest");
    }
}
