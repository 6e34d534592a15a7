/** Promises 12 to 18 and 52 to 57: acts, the log, undoing, the image. */
public final class ActsTest {
    private static final String TOWN = "family pride 7 needs 10 larder 25;family pride 3 needs 20;family pride 9 needs 5 larder 990;"
            + "slight a bitter 4 deep 6;slight b bitter 9 deep 0;time 6";
    private static final String GRUDGES = "grudge 0 1 over a ice 30 age 5 nursed;grudge 1 2 over b ice 985";

    private ActsTest() {
    }

    private static void row(GrudgeIce x, int ago, int... due) {
        for (int what = 0; what < 4; what++) Checks.due("log " + ago + " what " + what, x.log(ago, what), due[what]);
    }

    private static void insults() {
        GrudgeIce x = Checks.of(TOWN);
        Checks.due("a new one", x.insult(2, 0, 1), 0);
        int[] told = {2, 0, 1, 0, 19, 0, 0};
        for (int what = 0; what < 7; what++) Checks.due("told", x.grudge(0, what), told[what]);
        x.nurse(0, true);
        x.seasons(1);
        Checks.due("the same two", x.insult(2, 0, 0), 0);
        int[] again = {2, 0, 0, 1, 19 + 14 - 3 + 14, 1, 0};
        for (int what = 0; what < 7; what++) Checks.due("again", x.grudge(0, what), again[what]);
        Checks.due("the other way", x.insult(0, 2, 7), 1);
        Checks.due("without a slight told of", x.grudge(1, 4), 10);
        x.forgive(0);
        Checks.due("not of a thawed one", x.insult(2, 0, 0), 2);
        Checks.town(x, "grudge 2 0 over c ice 990");
        Checks.due("the least", x.insult(2, 0, 0), 2);
        x.forgive(2);
        Checks.due("the next one", x.insult(2, 0, 0), 3);
        Checks.due("999 at most", x.grudge(3, 4), 999);
        for (int g = 4; g < 10; g++) {
            Checks.due("so far", x.insult(0, 1, 0), g);
            if (g < 9) x.forgive(g);
        }
        int acts = x.count(11);
        Checks.cannot("an 11th one", () -> x.insult(1, 0, 0));
        Checks.due("it changes nothing", x.count(11), acts);
        Checks.due("an old one can", x.insult(0, 1, 0), 9);
        Checks.noSuch("family 3", () -> x.insult(3, 0, 0));
        Checks.noSuch("other 3", () -> x.insult(0, 3, 0));
        Checks.noSuch("family -1", () -> x.insult(-1, -1, 0));
        Checks.noSuch("slight 8", () -> x.insult(0, 0, 8));
        Checks.noSuch("slight -1", () -> x.insult(0, 1, -1));
        Checks.noNumber("both are one", () -> x.insult(1, 1, 0));
    }

    private static void forgiving() {
        GrudgeIce x = Checks.of(TOWN, GRUDGES);
        Checks.due("forgive", x.forgive(0), 30);
        row(x, 0, 6, 0, 1, 0);
        Checks.due("thawed", x.grudge(0, 6), 1);
        Checks.due("its ice stays", x.grudge(0, 4), 30);
        Checks.due("its nursing stays", x.grudge(0, 5), 1);
        Checks.cannot("forgive again", () -> x.forgive(0));
        Checks.noSuch("forgive 2", () -> x.forgive(2));
        Checks.noSuch("forgive -1", () -> x.forgive(-1));
        Checks.due("nurse", x.nurse(1, true), true);
        Checks.due("nurse again", x.nurse(1, true), false);
        Checks.due("nursed", x.grudge(1, 5), 1);
        Checks.due("not nursed", x.nurse(1, false), true);
        Checks.due("not nursed", x.grudge(1, 5), 0);
        Checks.due("acts, also without a change", x.count(11), 4);
        Checks.cannot("nurse a thawed one", () -> x.nurse(0, true));
        Checks.noSuch("nurse 2", () -> x.nurse(2, true));
        Checks.noSuch("nurse -1", () -> x.nurse(-1, true));
        Checks.due("no acts of these", x.count(11), 4);
        Checks.due("rows", x.count(10), 1);
    }

    private static void sawing() {
        GrudgeIce x = Checks.of(TOWN, GRUDGES);
        Checks.due("saw", x.saw(0, 2, 9), 21);
        row(x, 0, 6, 0, 2, 9);
        Checks.due("larder at most", x.family(2, 2), 999);
        Checks.due("saw all", x.saw(0, 2, 21), 0);
        Checks.due("not thawed", x.grudge(0, 6), 0);
        Checks.due("saw for another one", x.saw(1, 0, 500), 485);
        Checks.due("larder", x.family(0, 2), 525);
        Checks.cannot("less ice", () -> x.saw(0, 2, 1));
        Checks.cannot("of FROM", () -> x.saw(1, 1, 1));
        Checks.cannot("of TO", () -> x.saw(1, 2, 1));
        Checks.cannot("more than it has", () -> x.saw(1, 0, 486));
        Checks.noNumber("saw 0", () -> x.saw(1, 1, 0));
        Checks.noNumber("saw 1000", () -> x.saw(1, 0, 1000));
        Checks.noSuch("saw 2", () -> x.saw(2, 0, 0));
        Checks.noSuch("saw -1", () -> x.saw(-1, 0, 1));
        Checks.noSuch("saw for 3", () -> x.saw(0, 3, 0));
        Checks.noSuch("saw for -1", () -> x.saw(0, -1, 1));
        Checks.due("acts", x.count(11), 3);

        Checks.due("store", x.store(1, 400), 400);
        row(x, 0, 6, 1, 3, 400);
        Checks.due("its ice", x.grudge(1, 4), 85);
        Checks.cannot("store more", () -> x.store(1, 86));
        Checks.due("store all", x.store(1, 85), 485);
        Checks.due("not thawed", x.grudge(1, 6), 0);
        Checks.noNumber("store 0", () -> x.store(1, 0));
        Checks.noNumber("store 1000", () -> x.store(1, 1000));
        Checks.noSuch("store 2", () -> x.store(2, 0));
        Checks.noSuch("store -1", () -> x.store(-1, 1));
        x.forgive(1);
        Checks.cannot("saw a thawed one", () -> x.saw(1, 0, 1));
        Checks.cannot("store a thawed one", () -> x.store(1, 1));
        GrudgeIce y = Checks.of(TOWN, GRUDGES);
        y.forgive(1);
        Checks.cannot("saw a forgiven one that has ice", () -> y.saw(1, 0, 1));
        Checks.cannot("store a forgiven one that has ice", () -> y.store(1, 1));

        int rows = x.count(10);
        Checks.due("deliver", x.deliver(1, 85), 85);
        Checks.due("store then", x.count(5), 400);
        Checks.due("larder at most", x.deliver(2, 400), 999);
        Checks.due("nothing is left", x.count(5), 0);
        Checks.due("no rows", x.count(10), rows);
        Checks.cannot("deliver more", () -> x.deliver(1, 1));
        Checks.noNumber("deliver 0", () -> x.deliver(1, 0));
        Checks.noNumber("deliver 1000", () -> x.deliver(1, 1000));
        Checks.noSuch("deliver to 3", () -> x.deliver(3, 0));
        Checks.noSuch("deliver to -1", () -> x.deliver(-1, 1));
    }

    private static void storeAtMost() {
        GrudgeIce x = Checks.of(TOWN, GRUDGES, "store 999;heat spring 0;heat summer 0;heat autumn 0;heat winter 0");
        Checks.law(x, "freeze 100");
        for (int n = 0; n < 9; n++) {
            x.seasons(10);
            x.store(1, 998);
        }
        Checks.due("store", x.count(5), 9981);
        x.seasons(1);
        Checks.due("store at most", x.store(1, 101), 9999);
        row(x, 0, 97, 1, 3, 101);
    }

    private static void door() {
        GrudgeIce x = new GrudgeIce();
        Checks.due("shut already", x.prop(false), false);
        Checks.due("propped", x.prop(true), true);
        Checks.due("is propped", x.count(6), 1);
        Checks.due("propped again", x.prop(true), false);
        Checks.due("shut", x.prop(false), true);
        Checks.due("is shut", x.count(6), 0);
        Checks.due("acts", x.count(11), 4);
    }

    private static void log() {
        GrudgeIce x = Checks.of(TOWN, GRUDGES);
        Checks.due("no row", x.log(0, 0), -1);
        for (int what : new int[] {-1, 4}) Checks.noWhat("what " + what, () -> x.log(0, what));
        Checks.noWhat("what 4 of no row", () -> x.log(-1, 4));
        Checks.due("led", x.led(1, false), 0);
        Checks.due("led time", x.led(1, true), -1);
        x.store(0, 1);
        x.seasons(1);
        for (int n = 1; n <= 59; n++) x.store(1, 1);
        Checks.due("rows", x.count(10), 60);
        row(x, 59, 6, 0, 3, 1);
        Checks.due("led", x.led(0, false), 1);
        Checks.due("led time", x.led(0, true), 6);
        x.seasons(1);
        Checks.law(x, "freeze 100");
        x.seasons(1);
        x.saw(1, 0, 60);
        Checks.due("rows at most", x.count(10), 60);
        row(x, 0, 9, 1, 2, 60);
        row(x, 59, 7, 1, 3, 1);
        for (int ago : new int[] {-1, 60}) Checks.due("ago " + ago, x.log(ago, 0), -1);
        Checks.due("not led any more", x.led(0, false), 0);
        Checks.due("led time", x.led(0, true), -1);
        Checks.due("led", x.led(1, false), 60);
        Checks.due("the latest", x.led(1, true), 9);
        x.image();
        x.store(1, 61);
        x.undo();
        row(x, 59, 7, 1, 3, 1);
        Checks.town(x, "kiss 100");
        x.seasons(60);
        x.back();
        row(x, 0, 9, 1, 2, 60);
        row(x, 59, 7, 1, 3, 1);
        Checks.noSuch("led 2", () -> x.led(2, false));
        Checks.noSuch("led -1", () -> x.led(-1, true));
    }

    private static long sign(GrudgeIce x) {
        long sign = 0;
        for (int what = 0; what < 12; what++) sign = sign * 31 + x.count(what);
        for (int g = 0; g < 2; g++) {
            for (int what = 0; what < 11; what++) sign = sign * 31 + x.grudge(g, what);
        }
        for (int f = 0; f < 3; f++) {
            for (int what = 0; what < 7; what++) sign = sign * 31 + x.family(f, what);
        }
        int seed = x.seed(0);
        x.seed(seed);
        return (sign * 31 + seed) * 31 + x.log(0, 2);
    }

    private static void act(GrudgeIce x, int which) {
        switch (which) {
            case 0: x.seasons(3); break;
            case 1: x.insult(0, 2, 1); break;
            case 2: x.forgive(0); break;
            case 3: x.nurse(0, false); break;
            case 4: x.saw(1, 0, 7); break;
            case 5: x.store(1, 8); break;
            case 6: x.deliver(1, 9); break;
            default: x.prop(true);
        }
    }

    private static void undoing() {
        for (int which = 0; which < 8; which++) {
            GrudgeIce x = Checks.of(TOWN, GRUDGES, "store 100;kiss 100");
            long before = sign(x);
            act(x, which);
            Checks.due("it changed", sign(x) != before, true);
            Checks.due("undo", x.undo(), true);
            Checks.due("all is as ahead of act " + which, sign(x), before);
            Checks.due("no more", x.undo(), false);
            if (which != 1) Checks.noSuch("no grudge 2", () -> x.grudge(2, 0));
        }
        GrudgeIce x = Checks.of(TOWN, GRUDGES);
        for (int n = 0; n < 14; n++) x.store(1, n + 1);
        Checks.due("12 are remembered", x.count(11), 12);
        for (int n = 13; n >= 2; n--) {
            Checks.due("undo", x.undo(), true);
            Checks.due("acts", x.count(11), n - 2);
            Checks.due("store", x.count(5), n * (n + 1) / 2);
        }
        Checks.due("no 13th", x.undo(), false);
        Checks.due("store stays", x.count(5), 3);
        x.prop(true);
        x.undo();
        Checks.due("an act after undoing", x.count(6), 0);

        x.prop(true);
        x.seed(77);
        Checks.tape(x, "time");
        Checks.noNumber("a wrong text", x::town);
        x.feed(0, 0, 0, 0, 0);
        x.undo();
        Checks.due("the seed is as ahead of it", x.seed(1), 1);
        Checks.due("but fault", x.fault(), 4);
        Checks.due("and the tape", x.end(20), true);
        x.prop(true);
        Checks.town(x, "");
        Checks.due("a text: none are remembered", x.undo(), false);
        x.prop(false);
        Checks.law(x, "");
        Checks.due("a law: none are remembered", x.undo(), false);
        x.prop(true);
        Checks.tape(x, "");
        x.cuts(false);
        Checks.due("cuts are no text", x.undo(), true);
    }

    private static void image() {
        GrudgeIce x = Checks.of(TOWN, GRUDGES);
        x.prop(true);
        Checks.due("none was kept", x.back(), false);
        Checks.due("nothing happens", x.count(11), 1);
        x.seed(9);
        x.image();
        Checks.due("it is no act", x.count(11), 1);
        Checks.law(x, "freeze 1");
        Checks.town(x, "family pride 1 needs 1;heat summer 1;slight a bitter 1 deep 1;kiss 5");
        x.forgive(0);
        x.prop(false);
        x.seed(10);
        Checks.tape(x, "melt 5 if");
        Checks.noNumber("a wrong law", x::law);
        x.feed(0, 0, 0, 0, 0);
        Checks.due("back", x.back(), true);
        Checks.due("none are remembered", x.count(11), 0);
        int[] counts = {3, 3, 2, -1, 6, 0, 1, 0, 1015, 1015, 0, 0};
        for (int what = 0; what < 12; what++) Checks.due("count " + what, x.count(what), counts[what]);
        Checks.due("heat", x.heat(1), 3);
        Checks.due("bitter", x.slight(0, 0), 4);
        Checks.due("freezes", x.grudge(0, 7), 9);
        Checks.due("seed", x.seed(11), 9);
        Checks.due("but fault", x.fault(), 9);
        Checks.due("and the tape", x.end(20), true);
        Checks.law(x, "freeze 2;melt 2");
        x.image();
        Checks.law(x, "");
        x.prop(false);
        Checks.due("back again", x.back(), true);
        Checks.due("back twice", x.back(), true);
        Checks.due("the law", x.count(3), 2);
        Checks.due("by the law", x.grudge(0, 7) * 10 + x.grudge(0, 8), 25);
        Checks.due("seed", x.seed(1), 11);
        x.prop(false);
        x.image();
        x.undo();
        Checks.due("undone", x.count(6), 1);
        x.back();
        Checks.due("the image stays", x.count(6), 0);
    }

    public static void main(String[] args) {
        insults();
        forgiving();
        sawing();
        storeAtMost();
        door();
        log();
        undoing();
        image();
        Checks.end("ActsTest");
    }
}
