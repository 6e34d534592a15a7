/** The bounds of THE TOWN and of its texts, sentence by sentence (promises 1 to 6). */
public final class TownBoundsTest extends Checks {
    private static final String FAMILY = "family pride 1 needs 1";
    private static final String TWO = FAMILY + ";" + FAMILY;
    private static final String GRUDGE = "grudge 0 1 over a ice 9";
    private static final String LETTERS = "abcdefgh";
    private static final String[] YEAR = {"spring", "summer", "autumn", "winter"};
    private static final String SEASON_LAW = "harden 1 if season > 0;harden 1 if season > 1;harden 1 if season > 2";

    private TownBoundsTest() {
    }

    private static void calls() {
        sentence("An object is used for at most 512 calls after it has been made");
        GrudgeIce x = new GrudgeIce();
        for (int n = 1; n <= 510; n++) due("call " + n, x.prop(n % 2 == 1), true);
        due("call 511", x.count(11), 12);
        due("call 512", x.undo(), true);
    }

    // ---- what there is at first, and the bounds of it

    private static void time() {
        sentence("SEASONS 0 to 3 of a year, TIME 0 to 9999 (0 at first): the SEASON is TIME modulo 4.");
        due("time at first", new GrudgeIce().count(4), 0);
        for (int time : new int[] {0, 1, 2, 3, 4, 5, 6, 7, 8, 99, 100, 996, 997, 998, 999}) {
            GrudgeIce x = of(TWO, GRUDGE, "time " + time);
            due("time", x.count(4), time);
            law(x, SEASON_LAW);
            due("season of " + time, x.grudge(0, 9), time % 4);
        }
        GrudgeIce x = of(TWO, "slight a bitter 9 deep 0", GRUDGE + "99", "time 999");
        law(x, "freeze 100;" + SEASON_LAW);
        for (int n = 0; n < 149; n++) x.seasons(60);
        x.seasons(59);
        due("time", x.count(4), 9998);
        due("season of 9998", x.grudge(0, 9), 2);
        x.seasons(1);
        due("the last time", x.count(4), 9999);
        due("season of 9999", x.grudge(0, 9), 3);
        x.seasons(1);
        due("no time behind it", x.count(4), 9999);
        due("the season stays", x.grudge(0, 9), 3);
        x.seasons(60);
        due("no time behind it", x.count(4), 9999);
        x.forgive(0);
        due("the time of a row", x.log(0, 0), 9999);
    }

    private static void heat() {
        sentence("HEAT of each SEASON 0 to 20 (3 at first).");
        for (int q = 0; q < 4; q++) due("heat at first", new GrudgeIce().heat(q), 3);
        for (int q = 0; q < 4; q++) {
            for (int n : new int[] {0, 1, 19, 20}) {
                GrudgeIce x = rightTown("heat " + YEAR[q] + " " + n);
                for (int other = 0; other < 4; other++) due("heat " + other, x.heat(other), other == q ? n : 3);
            }
            wrongTown("heat " + YEAR[q] + " ^21");
            wrongTown("heat " + YEAR[q] + " ^99");
        }
        for (int q : new int[] {-1, 4, Integer.MIN_VALUE, Integer.MAX_VALUE}) {
            noSuch("heat of season " + q, () -> new GrudgeIce().heat(q));
        }
    }

    private static void families() {
        sentence("FAMILIES (at most 6, numbered from 0 on): PRIDE 0 to 9, NEEDS 0 to 99, LARDER 0 to 999 (0 at first), "
                + "OFF: how often it had too little, 0 to 99 (0 at first).");
        due("none at first", new GrudgeIce().count(0), 0);
        GrudgeIce x = new GrudgeIce();
        for (int f = 0; f < 6; f++) {
            int number = f;
            noSuch("not yet " + f, () -> x.family(number, 0));
            rightTown(x, "family pride " + f + " needs " + (90 + f));
            due("families", x.count(0), f + 1);
            due("pride", x.family(f, 0), f);
            due("needs", x.family(f, 1), 90 + f);
            due("larder at first", x.family(f, 2), 0);
            due("off at first", x.family(f, 3), 0);
        }
        wrongTown(x, "^" + FAMILY);
        wrongTown(x, "time 1; ^family");
        due("no 7th one", x.count(0), 6);
        noSuch("family 6", () -> x.family(6, 0));
        noSuch("family -1", () -> x.family(-1, 0));
        due("six in one text", rightTown(times(6, FAMILY)).count(0), 6);
        wrongTown(times(6, FAMILY) + ";^" + FAMILY);

        due("pride 0", rightTown("family pride 0 needs 1").family(0, 0), 0);
        due("pride 9", rightTown("family pride 9 needs 1").family(0, 0), 9);
        wrongTown("family pride ^10 needs 1");
        wrongTown("family pride ^99 needs 1");
        due("needs 0", rightTown("family pride 1 needs 0").family(0, 1), 0);
        due("needs 99", rightTown("family pride 1 needs 99").family(0, 1), 99);
        wrongTown("family pride 1 needs ^100");
        wrongTown("family pride 1 needs ^999");
        due("larder 0", rightTown(FAMILY + " larder 0").family(0, 2), 0);
        due("larder 999", rightTown(FAMILY + " larder 999").family(0, 2), 999);
        wrongTown(FAMILY + " larder ^1000");

        GrudgeIce hungry = of("family pride 1 needs 1");
        hungry.seasons(60);
        hungry.seasons(38);
        due("off", hungry.family(0, 3), 98);
        hungry.seasons(1);
        due("off at the most", hungry.family(0, 3), 99);
        hungry.seasons(1);
        due("off no more", hungry.family(0, 3), 99);
    }

    private static void slights() {
        sentence("SLIGHTS a to h (0 to 7): BITTER 0 to 9, DEEP 0 to 9 (0 at first, both).");
        for (int s = 0; s < 8; s++) {
            due("bitter at first", new GrudgeIce().slight(s, 0), 0);
            due("deep at first", new GrudgeIce().slight(s, 1), 0);
            String named = "slight " + LETTERS.charAt(s);
            int[][] rows = {{0, 0}, {9, 0}, {0, 9}, {9, 9}, {4, 5}};
            for (int[] row : rows) {
                GrudgeIce x = rightTown(named + " bitter " + row[0] + " deep " + row[1]);
                for (int t = 0; t < 8; t++) {
                    due("bitter", x.slight(t, 0), t == s ? row[0] : 0);
                    due("deep", x.slight(t, 1), t == s ? row[1] : 0);
                }
            }
            wrongTown(named + " bitter ^10 deep 1");
            wrongTown(named + " bitter 1 deep ^10");
            wrongTown(named + " bitter ^999 deep 1");
            wrongTown(named + " bitter 1 deep ^999");
        }
        for (int s : new int[] {-1, 8, Integer.MIN_VALUE, Integer.MAX_VALUE}) {
            noSuch("slight " + s, () -> new GrudgeIce().slight(s, 0));
        }
        GrudgeIce twice = rightTown("slight c bitter 9 deep 8;slight c bitter 0 deep 1");
        due("told twice", twice.slight(2, 0) * 10 + twice.slight(2, 1), 1);
    }

    private static void grudges() {
        sentence("GRUDGES (at most 10, numbered from 0 on): FROM a family, TO another one, a SLIGHT, AGE 0 to 99 (0 at first), "
                + "ICE 0 to 999, NURSED or not (not at first), THAWED or not (not at first; a THAWED one is not any more, but for its number).");
        GrudgeIce x = of(TWO);
        for (int g = 0; g < 10; g++) {
            int number = g;
            noSuch("not yet " + g, () -> x.grudge(number, 4));
            rightTown(x, "grudge " + g % 2 + " " + (g + 1) % 2 + " over " + LETTERS.charAt(g % 8) + " ice " + (990 + g));
            int[] due = {g % 2, (g + 1) % 2, g % 8, 0, 990 + g, 0, 0};
            for (int what = 0; what < 7; what++) due("grudge " + g + " what " + what, x.grudge(g, what), due[what]);
            due("bits", x.count(1), (1 << g + 1) - 1);
        }
        wrongTown(x, "^" + GRUDGE);
        wrongTown(x, FAMILY + "; ^grudge");
        cannot("an 11th one by an insult", () -> of(TWO, times(10, GRUDGE)).insult(1, 0, 0));
        noSuch("grudge 10", () -> x.grudge(10, 0));
        noSuch("grudge -1", () -> x.grudge(-1, 0));
        due("ten in one text", of(TWO, times(10, GRUDGE)).count(1), 1023);
        GrudgeIce ten = of(TWO);
        wrongTown(ten, times(10, GRUDGE) + ";^" + GRUDGE);
        due("none of a wrong text", ten.count(1), 0);
        x.forgive(4);
        x.forgive(9);
        wrongTown(x, "^" + GRUDGE);
        due("its number stays", x.grudge(4, 4), 994);
        due("but it is not any more", x.count(1), 1023 - 16 - 512);

        due("age 0", of(TWO, GRUDGE + " age 0").grudge(0, 3), 0);
        due("age 99", of(TWO, GRUDGE + " age 99").grudge(0, 3), 99);
        wrongTown(of(TWO), GRUDGE + " age ^100");
        wrongTown(of(TWO), GRUDGE + " age ^999");
        GrudgeIce none = of(TWO, "grudge 0 1 over a ice 0");
        due("ice 0", none.grudge(0, 4), 0);
        due("ice 0 is not thawed at first", none.grudge(0, 6), 0);
        due("ice 999", of(TWO, GRUDGE + "99").grudge(0, 4), 999);
        wrongTown(of(TWO), "grudge 0 1 over a ice ^1000");
        due("nursed", of(TWO, GRUDGE + " nursed").grudge(0, 5), 1);
        due("nursed behind its age", of(TWO, GRUDGE + " age 7 nursed").grudge(0, 5), 1);
    }

    private static void storeAndKiss() {
        sentence("STORE 0 to 9999 (0 at first), its DOOR shut or PROPPED (shut at first). KISS 0 to 100 (0 at first).");
        GrudgeIce x = new GrudgeIce();
        due("store at first", x.count(5), 0);
        due("shut at first", x.count(6), 0);
        due("kiss at first", x.count(7), 0);
        due("kiss 0", rightTown("kiss 9;kiss 0").count(7), 0);
        due("kiss 100", rightTown("kiss 100").count(7), 100);
        wrongTown("kiss ^101");
        wrongTown("kiss ^999");
        due("propped", rightTown("propped").count(6), 1);
        due("propped twice", rightTown("propped;propped").count(6), 1);
        GrudgeIce cold = of(TWO, "heat spring 0;heat summer 0;heat autumn 0;heat winter 0;store 999", "grudge 0 1 over a ice 999");
        law(cold, "freeze 100");
        for (int n = 1; n <= 9; n++) {
            due("store", cold.store(0, 999), 999 * (n + 1));
            cold.seasons(10);
        }
        due("store", cold.store(0, 8), 9998);
        due("store at the most", cold.store(0, 1), 9999);
        due("store no more", cold.store(0, 1), 9999);
        due("its ice is less by that", cold.grudge(0, 4), 989);
        cold.seasons(1);
        due("store no more", cold.store(0, 500), 9999);
    }

    // ---- the texts of THE TOWN

    private static void texts() {
        sentence("THE TOWN is told in texts (at most 12, one behind another)");
        GrudgeIce x = new GrudgeIce();
        for (int n = 1; n <= 12; n++) {
            tape(x, n == 12 ? "" : "store " + n);
            due("how many texts", x.town(), n);
            due("texts", x.count(2), n);
        }
        due("one behind another", x.count(5), 11);
        tape(x, "store 99");
        throwsThat("a 13th one", UnsupportedOperationException.class, x::town);
        due("there are 12", x.count(2), 12);
        due("its store is not told", x.count(5), 11);
        due("a right one has no fault", x.fault(), -1);
        due("the tape is used up", x.end(1), false);
        throwsThat("an empty 13th one", UnsupportedOperationException.class, x::town);
        wrongTown(x, "store ^1000");
        due("there are 12", x.count(2), 12);
    }

    private static void lines() {
        sentence("LINE { ; LINE }, at most 14");
        for (int n = 1; n <= 14; n++) due("texts of " + n + " lines", rightTown(times(n, "kiss 5")).count(2), 1);
        wrongTown(times(14, "kiss 5") + ";^kiss 5");
        wrongTown(times(14, "kiss 5") + " ; ^kiss");
        wrongTown(times(14, "kiss 5") + ";^cold");
        wrongTown(times(14, "kiss 5") + ";^");
        wrongTown(times(14, "kiss 5") + "; ^");
        wrongTown(times(14, "propped") + " ^propped");
        wrongTown(times(13, "propped") + ";^");
        wrongTown("^;propped");
        wrongTown("propped;^;propped");
        wrongTown("propped ^propped");
        wrongTown("propped ^, propped");
    }

    /** Of a LINE, told with [ and ] round what may be left out: cut off at each place, and another thing in each place. */
    private static void form(String told) {
        String so = "";
        boolean whole = false;
        for (String thing : told.split(" ")) {
            if (thing.equals("[") || thing.equals("]")) {
                whole = true;
                continue;
            }
            if (!so.isEmpty()) cutOff(so, whole);
            otherThings(so + (so.isEmpty() ? "" : " "), thing);
            so += (so.isEmpty() ? "" : " ") + thing;
            whole = false;
        }
        cutOff(so, true);
        wrongTown(of(TWO), so + " ^" + so);
    }

    private static void cutOff(String so, boolean whole) {
        if (whole) {
            rightTown(of(TWO), so);
            rightTown(of(TWO), "  " + so + " ; kiss 1  ");
            wrongTown(of(TWO), so + ";^");
            wrongTown(of(TWO), so + " ; ^;kiss 1");
        } else {
            wrongTown(of(TWO), so + "^");
            wrongTown(of(TWO), so + "   ^");
            wrongTown(of(TWO), so + " ^;kiss 1");
        }
    }

    private static void otherThings(String so, String thing) {
        boolean digits = thing.charAt(0) <= '9';
        String[] others = digits ? new String[] {"zz", "a", "(", "1000", "0000", "-1", "+1", "over"}
                : new String[] {"zz", "i", "(", "5", thing + "s", thing.toUpperCase(), "_" + thing, "and"};
        for (String other : others) wrongTown(of(TWO), so + "^" + other);
    }

    private static void forms() {
        sentence("family pride N needs N [ larder N ] | slight S bitter N deep N | grudge H H over S ice N [ age N ] [ nursed ] "
                + "| heat Q N | store N | kiss N | propped | time N.");
        form("family pride 1 needs 1 [ larder 1 ]");
        form("slight a bitter 1 deep 1");
        form("grudge 0 1 over a ice 9 [ age 5 ] [ nursed ]");
        form("grudge 1 0 over h ice 9 [ nursed ]");
        for (String q : YEAR) form("heat " + q + " 1");
        form("store 1");
        form("kiss 1");
        form("propped");
        form("time 1");
        wrongTown("family ^needs 1 pride 1");
        wrongTown("family pride 1 ^larder 1 needs 1");
        wrongTown("slight a ^deep 1 bitter 1");
        wrongTown(of(TWO), GRUDGE + " nursed ^age 1");
        wrongTown("heat ^3 spring");
        wrongTown("^shut");
        wrongTown("^freeze 1");
        wrongTown("^season 1");
    }

    private static void whoAndWhat() {
        sentence("(H: a family that there is by then; grudge: FROM, TO, another one, else it is wrong at it; S: one letter a to h; "
                + "Q: spring (0), summer (1), autumn (2), winter (3);");
        wrongTown("grudge ^0 1 over a ice 9");
        wrongTown(FAMILY + ";grudge 0 ^1 over a ice 9");
        wrongTown(FAMILY + ";grudge ^1 0 over a ice 9");
        wrongTown(FAMILY + ";grudge 0 ^0 over a ice 9");
        wrongTown("grudge ^0 1 over a ice 9;" + TWO);
        due("by then", rightTown(TWO + ";" + GRUDGE).count(1), 1);
        due("of texts before", of(FAMILY, FAMILY, GRUDGE).count(1), 1);
        wrongTown(of(TWO), "grudge 0 ^2 over a ice 9;" + FAMILY);
        wrongTown(of(TWO), "grudge ^2 0 over a ice 9;" + FAMILY);
        due("just then", of(TWO, FAMILY + ";grudge 0 2 over a ice 9").grudge(0, 1), 2);
        GrudgeIce six = of(TWO, TWO, TWO);
        wrongTown(six, "grudge 0 ^6 over a ice 9");
        wrongTown(six, "grudge ^6 0 over a ice 9");
        wrongTown(six, "grudge ^999 0 over a ice 9");
        wrongTown(six, "grudge 5 ^005 over a ice 9");
        rightTown(six, "grudge 005 000 over a ice 9");
        due("from 5", six.grudge(0, 0) * 10 + six.grudge(0, 1), 50);
        for (int s = 0; s < 8; s++) {
            due("slight", of(TWO, "grudge 0 1 over " + LETTERS.charAt(s) + " ice 9").grudge(0, 2), s);
        }
        for (String s : new String[] {"i", "z", "ab", "aa", "A", "0", "1", "`", "age", "`a"}) {
            wrongTown(of(TWO), "grudge 0 1 over ^" + s + " ice 9");
            wrongTown("slight ^" + s + " bitter 1 deep 1");
        }
        for (int q = 0; q < 4; q++) {
            GrudgeIce x = of(TWO, GRUDGE, "heat " + YEAR[q] + " 17;time " + q);
            due("melts in " + YEAR[q], x.grudge(0, 8), 17);
        }
        wrongTown("heat ^fall 1");
        wrongTown("heat ^springs 1");
    }

    private static void numbers() {
        sentence("ice, larder, store, time: 0 to 999; needs 0 to 99; age 0 to 99; heat 0 to 20.) Numbers are of 1 to 3 digits.");
        String[] lines = {"family pride @ needs 1", "family pride 1 needs @", "family pride 1 needs 1 larder @",
            "slight a bitter @ deep 1", "slight a bitter 1 deep @", "grudge 0 1 over a ice @", "grudge 0 1 over a ice 1 age @",
            "heat spring @", "store @", "kiss @", "time @"};
        int[] most = {9, 99, 999, 9, 9, 999, 99, 20, 999, 100, 999};
        for (int i = 0; i < lines.length; i++) {
            for (String n : new String[] {"0", "00", "000", "" + most[i], String.format("%03d", most[i])}) {
                rightTown(of(TWO), lines[i].replace("@", n));
            }
            for (String n : new String[] {"" + (most[i] + 1), "0000", "0001", "1000", "00000000000000000001", "4294967296", "-1", "+1", "a"}) {
                wrongTown(of(TWO), lines[i].replace("@", "^" + n));
            }
            if (most[i] < 999) wrongTown(of(TWO), lines[i].replace("@", "^999"));
        }
        due("three digits", rightTown("time 007").count(4), 7);
    }

    private static void blanks() {
        sentence("Words are as long as a to z go on; between all there may be blanks (32), also ahead and behind.");
        GrudgeIce x = of(TWO, "grudge0 1over a ice5age3nursed;kiss7;time8;heat winter9;store10");
        due("without blanks", x.grudge(0, 4) * 10 + x.grudge(0, 3), 53);
        due("without blanks", x.count(7) * 1000 + x.count(4) * 100 + x.heat(3) * 10 + x.count(5), 7900);
        rightTown("   slight    a    bitter   1    deep    1    ;    kiss     7    ");
        wrongTown("^familypride 1 needs 1");
        wrongTown("family ^prideneeds1");
        wrongTown("slight ^abitter 1 deep 1");
        wrongTown("^ki ss 1");
        wrongTown("kiss 1 ^2");
        wrongTown("kiss ^1234");
        wrongTown(of(TWO), "grudge 01 ^over a ice 1");
        wrongTown("^Kiss 1");
        wrongTown("^kisS 1");
        for (char c : new char[] {0, 9, 10, 13, 31, 33, 47, 58, 96, 123, 127, 128, 160, 255}) {
            wrongTown("^" + c + "kiss 1");
            wrongTown("kiss ^" + c + "1");
            wrongTown("kiss 1^" + c);
            wrongTown("kiss 1 ^" + c);
            wrongTown("^" + c);
        }
    }

    private static void empties() {
        sentence("A text that is empty, or blanks alone, has no LINE.");
        GrudgeIce x = of(TWO, GRUDGE, "time 5");
        x.prop(true);
        tape(x, "");
        due("empty", x.town(), 4);
        due("it makes acts be forgotten", x.count(11), 0);
        tape(x, " ".repeat(400));
        due("400 blanks", x.town(), 5);
        due("no fault", x.fault(), -1);
        due("nothing else", x.count(4) * 10 + x.count(6), 51);
        due("on a new object", new GrudgeIce().town(), 1);
    }

    private static void firstWrong() {
        sentence("The first wrong byte: the begin of the first thing that cannot stand there (a number of more digits, or out of its "
                + "bounds, or that tells none that can be; letters that are none such; a word that is none; the ( or not that is a "
                + "7th one deep; of a LINE, a family, a GRUDGE too many, the first word), or the text's length, if more must come.");
        due("ahead of any", new GrudgeIce().fault(), -1);
        wrongTown("kiss ^1000;kiss 101;zz");
        wrongTown("kiss 1;kiss ^101;kiss 1000");
        wrongTown("kiss 1; ^zz 101;kiss 1000");
        wrongTown("time 1;   kiss     ^0101   ");
        wrongTown(times(6, FAMILY) + "; kiss 1 ;  ^family pride 10 zz");
        wrongTown(times(6, FAMILY) + ";kiss ^101;family");
        wrongTown(of(TWO, times(9, GRUDGE)), GRUDGE + ";  ^grudge 7 7 zz");
        wrongTown(of(TWO, times(10, GRUDGE)), "kiss 1;^grudge");
        wrongTown("kiss 1;kiss^");
        wrongTown("kiss^");
        wrongTown(" ".repeat(395) + "kiss ^");
        wrongTown(" ".repeat(396) + "kiss^");
        wrongTown(" ".repeat(399) + "^k");
        wrongTown(" ".repeat(399) + "^#");
        wrongTown("^" + "k".repeat(400));
        wrongTown("kiss ^" + "0".repeat(395));
        GrudgeIce x = new GrudgeIce();
        wrongTown(x, "kiss ^1000");
        wrongTown(x, "time^");
        rightTown(x, "kiss 1");
        wrongTown(x, "^#");
        rightTown(x, "");
    }

    private static void nothingStays() {
        sentence("Of a wrong text nothing stays.");
        GrudgeIce x = of(TWO, GRUDGE, "kiss 3");
        wrongTown(x, FAMILY + ";slight a bitter 9 deep 9;" + GRUDGE + " age 7 nursed;heat spring 20;store 999;kiss 100;propped;time 77;^");
        int[] due = {2, 1, 3, -1, 0, 0, 0, 3, 9, 0, 0, 0};
        for (int what = 0; what < 12; what++) due("count " + what, x.count(what), due[what]);
        due("bitter", x.slight(0, 0) + x.slight(0, 1), 0);
        due("heat", x.heat(0), 3);
        noSuch("family", () -> x.family(2, 0));
        noSuch("grudge", () -> x.grudge(1, 0));
        rightTown(x, GRUDGE + "0");
        due("the next number", x.grudge(1, 4), 90);
        due("not nursed", x.grudge(1, 5) + x.grudge(1, 3), 0);
        rightTown(x, FAMILY);
        due("the next family", x.family(2, 2) + x.family(2, 3), 0);
    }

    // ---- the TAPE

    private static void feeding() {
        sentence("Twenty bytes come behind the TAPE, of each number the highest first: how many it has; NONE, and none come, "
                + "if it would have more than 400.");
        GrudgeIce x = new GrudgeIce();
        due("twenty", x.feed(0x2020206b, 0x69737320, 0x2020203b, 0x74696d65, 0x20202036), 20);
        due("behind", x.feed(0x33203b20, 0x20202020, 0x73746f72, 0x65202020, 0x20202034), 40);
        noNumber("kiss needs a number", x::town);
        due("the highest byte first", x.fault(), 11);
        due("anew", x.feed(0x2020206b, 0x69737320, 0x2020353b, 0x74696d65, 0x20202036), 20);
        due("behind", x.feed(0x33203b20, 0x20202020, 0x73746f72, 0x65202020, 0x20202034), 40);
        due("all forty", x.town(), 1);
        due("what they tell", x.count(7) * 10000 + x.count(4) * 100 + x.count(5), 56304);

        int blank = 0x20202020;
        for (int n = 20; n <= 400; n += 20) due("feed", x.feed(blank, blank, blank, blank, blank), n);
        due("421 would be too many", x.feed(0, 0, 0, 0, 0), -1);
        due("none came", x.end(401), false);
        due("none came in their place", x.town(), 2);
        for (int n = 20; n <= 400; n += 20) x.feed(blank, blank, blank, blank, blank);
        x.end(381);
        due("401 would be too many", x.feed(0, 0, 0, 0, 0), -1);
        due("none came", x.end(382), false);
        x.end(380);
        due("just 400", x.feed(blank, blank, blank, blank, 0x20202023), 400);
        noNumber("the last one is a #", x::town);
        due("the last byte", x.fault(), 399);
        due("after use from the begin", x.feed(0, 0, 0, 0, 0), 20);
    }

    private static void ending() {
        sentence("The TAPE has its first n bytes alone: true; false, and nothing happens, if it has fewer, or n is below 0.");
        GrudgeIce x = new GrudgeIce();
        due("of none 0", x.end(0), true);
        due("of none 1", x.end(1), false);
        due("of none -1", x.end(-1), false);
        tape(x, "kiss 77");
        for (int n : new int[] {8, 20, 400, 401, -1, -7, Integer.MIN_VALUE, Integer.MAX_VALUE}) due("end " + n, x.end(n), false);
        due("as many as it has", x.end(7), true);
        due("fewer", x.end(6), true);
        due("not more any more", x.end(7), false);
        due("read", x.town(), 1);
        due("its first bytes", x.count(7), 7);
        due("used up", x.end(1), false);
        due("none is right", x.end(0), true);
        x.feed(-1, -1, -1, -1, -1);
        x.end(0);
        x.feed(0x6b697373, 0x20390000, 0, 0, 0);
        x.end(6);
        x.town();
        due("cut off ones are gone", x.count(7), 9);
    }

    public static void main(String[] args) {
        calls();
        time();
        heat();
        families();
        slights();
        grudges();
        storeAndKiss();
        texts();
        lines();
        forms();
        whoAndWhat();
        numbers();
        blanks();
        empties();
        firstWrong();
        nothingStays();
        feeding();
        ending();
        end("TownBoundsTest");
    }
}
