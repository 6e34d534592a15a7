/** Promises 1 to 6, 58: a new object, the TAPE, the texts and their first wrong bytes. */
public final class TextsTest {
    private static final String FAMILY = "family pride 1 needs 1";
    private static final String TWO = FAMILY + ";" + FAMILY;

    private TextsTest() {
    }

    private static void wrongTown(String text, int fault) {
        wrongTown(new GrudgeIce(), text, fault);
    }

    private static void wrongTown(GrudgeIce x, String text, int fault) {
        Checks.tape(x, text);
        Checks.noNumber("town " + text, x::town);
        Checks.due("fault of town " + text, x.fault(), fault);
        Checks.due("the tape is used up", x.end(1), false);
    }

    private static void wrongLaw(String text, int fault) {
        GrudgeIce x = new GrudgeIce();
        Checks.tape(x, text);
        Checks.noNumber("law " + text, x::law);
        Checks.due("fault of law " + text, x.fault(), fault);
        Checks.due("no law of " + text, x.count(3), -1);
        Checks.due("the tape is used up", x.end(1), false);
    }

    private static void rightLaw(String text, int lines) {
        GrudgeIce x = new GrudgeIce();
        Checks.due("law " + text, Checks.law(x, text), lines);
        Checks.due("fault of law " + text, x.fault(), -1);
        Checks.due("lines of law " + text, x.count(3), lines);
    }

    private static String times(int n, String line) {
        return (line + ";").repeat(n - 1) + line;
    }

    private static void newObject() {
        GrudgeIce x = new GrudgeIce();
        for (int what = 0; what <= 11; what++) Checks.due("count " + what, x.count(what), what == 3 ? -1 : 0);
        Checks.due("count 12", x.count(12), -1);
        Checks.due("count -1", x.count(-1), -1);
        Checks.due("fault", x.fault(), -1);
        for (int q = 0; q < 4; q++) Checks.due("heat", x.heat(q), 3);
        for (int a = 0; a < 8; a++) {
            for (int what = 0; what < 3; what++) Checks.due("slight", x.slight(a, what), 0);
        }
        Checks.due("seed", x.seed(1), 1);
        Checks.noSuch("no family", () -> x.family(0, 0));
        Checks.noSuch("no grudge", () -> x.grudge(0, 0));
        Checks.due("undo", x.undo(), false);
        Checks.due("back", x.back(), false);
        Checks.due("cold", x.cold(), 0);
        Checks.due("stock", x.stock(), 0);
        for (int n : new int[] {x.scarce(), x.hot(), x.oldest(), x.proud()}) Checks.due("none", n, -1);
        int[] zeros = {x.keeps(), x.tight(), x.misses(-1), x.thaw(0), x.friends(), x.camps(false), x.camps(true),
            x.rota(), x.feud(), x.between(), x.kisses(-1), x.blue(), x.nursed(), x.mutual(), x.offs(), x.twins(),
            x.trial(60, true), x.trial(60, false), x.span(60, true), x.span(60, false)};
        for (int n : zeros) Checks.due("nothing", n, 0);
        Checks.due("thaw 1", x.thaw(1), -1);
        Checks.noSuch("kisses of none", () -> x.kisses(0));
        Checks.noSuch("kisses of -2", () -> x.kisses(-2));
    }

    private static void tape() {
        GrudgeIce x = new GrudgeIce();
        Checks.due("end below 0", x.end(-1), false);
        Checks.due("end 0", x.end(0), true);
        Checks.due("end beyond", x.end(1), false);
        Checks.due("feed", x.feed(0x74696d65, 0x20372020, 0x20202020, 0x20202020, 0x20202020), 20);
        Checks.due("end beyond", x.end(21), false);
        Checks.due("end as it is", x.end(20), true);
        Checks.due("town", x.town(), 1);
        Checks.due("the highest byte first", x.count(4), 7);
        Checks.due("used up", x.end(1), false);
        for (int n = 20; n <= 400; n += 20) Checks.due("feed", x.feed(0, 0, 0, 0, 0), n);
        Checks.due("feed too many", x.feed(1, 1, 1, 1, 1), -1);
        Checks.due("none came", x.end(401), false);
        Checks.due("381 bytes", x.end(381), true);
        Checks.due("feed too many by one", x.feed(1, 1, 1, 1, 1), -1);
        Checks.due("380 bytes", x.end(380), true);
        Checks.due("feed just as many", x.feed(-1, -1, -1, -1, -1), 400);
        Checks.due("end 5", x.end(5), true);
        Checks.due("feed behind", x.feed(0, 0, 0, 0, 0), 25);
        Checks.noNumber("zeros are no text", x::town);
        Checks.due("fault of zeros", x.fault(), 0);
        Checks.due("end keeps what it had", x.end(0) && !x.end(1), true);
        x.feed(0xffffffff, 0x80808080, 0, 0, 0);
        Checks.noNumber("high bytes", x::law);
        Checks.due("fault of high bytes", x.fault(), 0);
    }

    private static void rightTowns() {
        GrudgeIce x = Checks.of("  family pride 9needs 99 larder999 ;family pride 0 needs 007  ",
                "slight h bitter9 deep 8;grudge 1 0 over h ice 999 age 99 nursed;grudge 0 1over a ice 0;heat winter 20;heat spring 0",
                "store 999;kiss 100;propped;time 999", "", "   ");
        Checks.due("texts", x.count(2), 5);
        Checks.due("fault", x.fault(), -1);
        int[][] family = {{9, 99, 999, 0}, {0, 7, 0, 0}};
        int[][] grudge = {{1, 0, 7, 99, 999, 1, 0}, {0, 1, 0, 0, 0, 0, 0}};
        for (int i = 0; i < 2; i++) {
            for (int what = 0; what < 4; what++) Checks.due("family " + i, x.family(i, what), family[i][what]);
            for (int what = 0; what < 7; what++) Checks.due("grudge " + i, x.grudge(i, what), grudge[i][what]);
        }
        Checks.due("bitter", x.slight(7, 0), 9);
        Checks.due("deep", x.slight(7, 1), 8);
        int[] heat = {0, 3, 3, 20};
        for (int q = 0; q < 4; q++) Checks.due("heat", x.heat(q), heat[q]);
        int[] counts = {2, 3, 5, -1, 999, 999, 1, 100, 999, 999, 0, 0};
        for (int what = 0; what < 12; what++) Checks.due("count " + what, x.count(what), counts[what]);
        Checks.town(x, "heat spring 1;heat summer 2;heat autumn 3;heat winter 4;store 1;kiss 0;time 0;slight h bitter 0 deep 0");
        for (int q = 0; q < 4; q++) Checks.due("heat anew", x.heat(q), q + 1);
        Checks.due("store anew", x.count(5), 1);
        Checks.due("kiss anew", x.count(7), 0);
        Checks.due("time anew", x.count(4), 0);
        Checks.due("bitter anew", x.slight(7, 0), 0);
        Checks.due("14 lines", Checks.town(new GrudgeIce(), times(14, "time 1")), 1);
        Checks.due("10 grudges", Checks.of(TWO, times(10, "grudge 0 1 over a ice 1")).count(1), 1023);
    }

    private static void wrongTowns() {
        wrongTown("family", 6);
        wrongTown("family  ", 8);
        wrongTown("familypride 1 needs 1", 0);
        wrongTown("Family pride 1 needs 1", 0);
        wrongTown("family pride 10 needs 1", 13);
        wrongTown("family pride 0009 needs 1", 13);
        wrongTown("family pride x needs 1", 13);
        wrongTown("family pride 1 larder 1", 15);
        wrongTown("family pride 1 needs 1 larder", 29);
        wrongTown("family pride 1 needs 1 larder 0000", 30);
        wrongTown("family pride 1 needs 1 nursed", 23);
        wrongTown("slight a bitter 1", 17);
        wrongTown("slight a bitter 1 deep 10", 23);
        wrongTown("slight abitter 1 deep 1", 7);
        wrongTown("slight A bitter 1 deep 1", 7);
        wrongTown(TWO + ";grudge 0 2 over a ice 1", 55);
        wrongTown(TWO + ";grudge 2 0 over a ice 1", 53);
        wrongTown(TWO + ";grudge 1 1 over a ice 1", 55);
        wrongTown(TWO + ";grudge 1 01 over a ice 1", 55);
        wrongTown(TWO + ";grudge 01 over a ice 1", 56);
        wrongTown(TWO + ";grudge 0 1 over a", 63);
        wrongTown(TWO + ";grudge 0 1 over a ice 1 age 100", 74);
        wrongTown(TWO + ";grudge 0 1 over a ice 1 nursed age 1", 77);
        wrongTown(TWO + ";grudge 0 1 over a ice 1 age 1 age 1", 76);
        wrongTown("grudge 0 1 over a ice 1;" + TWO, 7);
        wrongTown("heat 1", 5);
        wrongTown("heat spring", 11);
        wrongTown("heat spring summer", 12);
        wrongTown("spring 1", 0);
        wrongTown("propped;;time 1", 8);
        wrongTown(";", 0);
        wrongTown("time 1 2", 7);
        wrongTown("time 1 ; ", 9);
        wrongTown("time -1", 5);
        wrongTown("time 1,time 2", 6);
        wrongTown("kiss 1\u00a0", 6);
        wrongTown("\t", 0);
        wrongTown("melt 1", 0);
        wrongTown("family pride 1 needs 100", 21);
        wrongTown("family pride 1 needs 1 larder 1000", 30);
        wrongTown("slight a bitter 10 deep 1", 16);
        wrongTown(TWO + ";grudge 0 1 over a ice 1000", 68);
        wrongTown(TWO + ";grudge 0 1 over i ice 1", 62);
        wrongTown("heat spring 21", 12);
        wrongTown("store 1000", 6);
        wrongTown("kiss 101", 5);
        wrongTown("time 1000", 5);
        wrongTown(times(15, "time 1"), 98);
        wrongTown(times(7, FAMILY), 138);
        wrongTown(times(14, "time 1") + ";", 98);
        wrongTown(times(14, "time 1") + " ; cold", 100);
        GrudgeIce x = Checks.of(TWO, times(10, "grudge 0 1 over a ice 1"));
        wrongTown(x, "grudge 0 1 over a ice 1", 0);
        wrongTown(x, "time 5; slight a bitter 5 deep 5;heat spring 9; grudge 0 1 over a ice 1", 48);
        x.forgive(3);
        wrongTown(x, " grudge 0 1 over a ice 1", 1);
        Checks.due("nothing stays", x.count(4), 0);
        Checks.due("nothing stays", x.slight(0, 0), 0);
        Checks.due("nothing stays", x.heat(0), 3);
        Checks.due("texts", x.count(2), 2);
        Checks.due("an act stays remembered", x.count(11), 1);
        Checks.due("a right text", Checks.town(x, "time 1"), 3);
        Checks.due("no fault then", x.fault(), -1);
        Checks.due("nothing is remembered then", x.count(11), 0);
    }

    private static void twelveTexts() {
        GrudgeIce x = new GrudgeIce();
        for (int n = 1; n <= 12; n++) Checks.due("texts", Checks.town(x, n % 2 == 0 ? "" : "time " + n), n);
        x.prop(true);
        wrongTown(x, "time", 4);
        Checks.tape(x, "time 99");
        Checks.throwsThat("a 13th text", UnsupportedOperationException.class, x::town);
        Checks.due("its fault", x.fault(), -1);
        Checks.due("the tape is used up", x.end(1), false);
        Checks.due("nothing changed", x.count(4), 11);
        Checks.due("texts", x.count(2), 12);
        Checks.due("acts", x.count(11), 1);
        Checks.due("a law is no such text", Checks.law(x, "melt 1"), 1);
    }

    private static void laws() {
        rightLaw("", 0);
        rightLaw("   ", 0);
        rightLaw("freeze 0;melt 100;harden 050", 3);
        rightLaw(times(12, "melt 5"), 12);
        rightLaw("melt5if(nursed)or not(mutual)and propped", 1);
        rightLaw("melt 1 if not not not not not not nursed", 1);
        rightLaw("melt 1 if ((((((nursed))))))", 1);
        rightLaw("melt 1 if not(not(not(nursed)))and not nursed or(nursed)", 1);
        rightLaw("freeze 1 if grudge+age+ice+pride<bitter+deep+heat+season+999", 1);
        wrongLaw("freeze", 6);
        wrongLaw("freeze 101", 7);
        wrongLaw("melt 101", 5);
        wrongLaw("harden 0000", 7);
        wrongLaw("freeze 1 when", 9);
        wrongLaw("melt 5 if", 9);
        wrongLaw("melt 5 if heat", 14);
        wrongLaw("melt 5 if heat + ", 17);
        wrongLaw("melt 5 if heat > ", 17);
        wrongLaw("melt 5 if heat = 3", 15);
        wrongLaw("melt 5 if heat > 1000", 17);
        wrongLaw("melt 5 if heat > 3 > 2", 19);
        wrongLaw("melt 5 if heat > nursed", 17);
        wrongLaw("melt 5 if store > 1", 10);
        wrongLaw("melt 5 if 3 4", 12);
        wrongLaw("melt 5 if nursed and", 20);
        wrongLaw("melt 5 if nursed or;", 19);
        wrongLaw("melt 5 if nursed nursed", 17);
        wrongLaw("melt 5 if nursed + 1", 17);
        wrongLaw("melt 5 if ()", 11);
        wrongLaw("melt 5 if (mutual", 17);
        wrongLaw("melt 5 if mutual)", 16);
        wrongLaw("melt 5 if (age + (1)) < 2", 17);
        wrongLaw("melt 5 if not not not not not not not nursed", 34);
        wrongLaw("melt 5 if (((((((nursed)))))))", 16);
        wrongLaw("melt 5 if not(not(not( not nursed)))", 23);
        wrongLaw("tax 5", 0);
        wrongLaw("family pride 1 needs 1", 0);
        wrongLaw("melt 5;", 7);
        wrongLaw(times(13, "melt 5"), 84);
        wrongLaw(times(12, "melt 5") + ";", 84);
        GrudgeIce x = Checks.of(TWO + ";slight a bitter 9 deep 0;grudge 0 1 over a ice 1");
        Checks.law(x, "freeze 5");
        x.prop(true);
        Checks.tape(x, "freeze 7;melt");
        Checks.noNumber("a wrong law", x::law);
        Checks.due("the law before stays", x.grudge(0, 7), 5);
        Checks.due("acts stay", x.count(11), 1);
        Checks.due("another law", Checks.law(x, "freeze 7;harden 1"), 2);
        Checks.due("it is in place of the one before", x.grudge(0, 7), 7);
        Checks.due("no acts then", x.count(11), 0);
        Checks.due("an empty law", Checks.law(x, " "), 0);
        Checks.due("freezes nothing", x.grudge(0, 7), 0);
        Checks.due("melts by heat", x.grudge(0, 8), 3);
    }

    public static void main(String[] args) {
        newObject();
        tape();
        rightTowns();
        wrongTowns();
        twelveTexts();
        laws();
        Checks.end("TextsTest");
    }
}
