/** The bounds of acts, THE LOG, undoing and THE IMAGE, sentence by sentence (promises 12 to 18, 52 to 57). */
public final class ActBoundsTest extends Checks {
    private static final String FOUR = "family pride 1 needs 0;family pride 2 needs 5 larder 998;family pride 3 needs 9;"
            + "family pride 4 needs 0 larder 999";
    private static final String SLIGHTS = "slight a bitter 0 deep 1;slight b bitter 9 deep 2;slight c bitter 4 deep 3";
    private static final String COLD = "heat spring 0;heat summer 0;heat autumn 0;heat winter 0";

    private ActBoundsTest() {
    }

    private static void grudge(GrudgeIce x, int g, int... due) {
        for (int what = 0; what < due.length; what++) due("grudge " + g + " what " + what, x.grudge(g, what), due[what]);
    }

    private static void row(GrudgeIce x, int ago, int... due) {
        for (int what = 0; what < 4; what++) due("row " + ago + " what " + what, x.log(ago, what), due[what]);
    }

    private static void newGrudges() {
        sentence("an insult: a new GRUDGE (AGE 0, ICE 10 and BITTER, not NURSED; at most 10)");
        GrudgeIce x = of(FOUR, SLIGHTS);
        due("the first number", x.insult(0, 1, 0), 0);
        grudge(x, 0, 0, 1, 0, 0, 10, 0, 0);
        due("the next", x.insult(1, 0, 1), 1);
        grudge(x, 1, 1, 0, 1, 0, 19, 0, 0);
        due("the next", x.insult(3, 2, 7), 2);
        grudge(x, 2, 3, 2, 7, 0, 10, 0, 0);
        int[][] pairs = {{0, 2}, {0, 3}, {1, 2}, {1, 3}, {2, 0}, {2, 1}, {2, 3}};
        for (int n = 0; n < 7; n++) due("the next", x.insult(pairs[n][0], pairs[n][1], 2), n + 3);
        due("ten", x.count(1), 1023);
        cannot("an 11th one", () -> x.insult(3, 0, 0));
        noSuch("none of it", () -> x.grudge(10, 0));
        due("acts", x.count(11), 10);
        due("one that is there can be insulted on", x.insult(2, 3, 0), 9);
        x.forgive(9);
        cannot("a thawed one counts still", () -> x.insult(2, 3, 0));
        cannot("an 11th one", () -> x.insult(3, 0, 0));
        GrudgeIce told = of(FOUR, times(9, "grudge 0 1 over a ice 1"));
        due("behind those of a text", told.insult(1, 0, 0), 9);
        cannot("an 11th one", () -> told.insult(2, 0, 0));
        told.undo();
        due("after undoing there is room", told.insult(2, 0, 0), 9);
        GrudgeIce six = of("family pride 1 needs 1;family pride 1 needs 1", times(4, "family pride 1 needs 1"));
        due("the last family", six.insult(5, 4, 0), 0);
        grudge(six, 0, 5, 4);
    }

    private static void insultedOn() {
        sentence("or, if there is one of these two, so, that is not THAWED (the least), its ICE is 10 and BITTER more (999 at most; BITTER "
                + "of the told SLIGHT), its SLIGHT the told one;");
        GrudgeIce x = of(FOUR, SLIGHTS, "grudge 0 1 over b ice 5 age 7 nursed;grudge 0 1 over b ice 6;grudge 1 0 over a ice 7");
        due("the least", x.insult(0, 1, 2), 0);
        grudge(x, 0, 0, 1, 2, 7, 19, 1, 0);
        grudge(x, 1, 0, 1, 1, 0, 6, 0, 0);
        x.forgive(0);
        due("the least that is not thawed", x.insult(0, 1, 0), 1);
        grudge(x, 1, 0, 1, 0, 0, 16, 0, 0);
        due("the other way", x.insult(1, 0, 1), 2);
        grudge(x, 2, 1, 0, 1, 0, 26, 0, 0);
        x.forgive(1);
        due("none is left of these", x.insult(0, 1, 1), 3);
        grudge(x, 3, 0, 1, 1, 0, 19, 0, 0);
        grudge(x, 0, 0, 1, 2, 7, 19, 1, 1);
        x.saw(3, 2, 19);
        due("without ice it is one still", x.insult(0, 1, 0), 3);
        grudge(x, 3, 0, 1, 0, 0, 10, 0, 0);
        int[][] rows = {{980, 1, 999}, {979, 1, 998}, {981, 1, 999}, {988, 0, 998}, {989, 0, 999}, {990, 0, 999}, {999, 0, 999}, {999, 1, 999}};
        for (int[] row : rows) {
            GrudgeIce y = of(FOUR, SLIGHTS, "grudge 0 1 over c ice " + row[0]);
            y.insult(0, 1, row[1]);
            due(row[0] + " over " + row[1], y.grudge(0, 4), row[2]);
            due("the told slight", y.grudge(0, 2), row[1]);
        }
    }

    private static void forgiven() {
        sentence("Forgiven: the ICE that it had.");
        GrudgeIce x = of(FOUR, SLIGHTS, "grudge 0 1 over b ice 0;grudge 0 1 over b ice 999 age 99 nursed;grudge 1 2 over a ice 1", "time 999");
        due("ice 0", x.forgive(0), 0);
        due("ice 999", x.forgive(1), 999);
        grudge(x, 1, 0, 1, 1, 99, 999, 1, 1);
        due("one is left", x.count(1), 4);
        due("ice of all", x.count(8), 1);
        row(x, 0, 999, 1, 1, 0);
        row(x, 1, 999, 0, 1, 0);
        cannot("again", () -> x.forgive(0));
        due("the last one", x.forgive(2), 1);
        due("none is left", x.count(1) + x.count(8), 0);
        GrudgeIce melted = of(FOUR, "grudge 0 1 over a ice 1");
        melted.seasons(1);
        cannot("one that a season thawed", () -> melted.forgive(0));
    }

    private static void nursing() {
        sentence("NURSED, or not: whether that changed.");
        GrudgeIce x = of(FOUR, SLIGHTS, "grudge 0 1 over b ice 9;grudge 0 1 over b ice 9 nursed;grudge 1 2 over a ice 1");
        boolean[][] calls = {{false, false}, {true, true}, {true, false}, {false, true}, {false, false}};
        for (boolean[] call : calls) {
            due("whether that changed", x.nurse(0, call[0]), call[1]);
            due("it is so", x.grudge(0, 5) == 1, call[0]);
            due("the other one is as it was", x.grudge(1, 5), 1);
        }
        due("each is an act, also without a change", x.count(11), 5);
        x.forgive(1);
        cannot("a thawed one", () -> x.nurse(1, false));
        cannot("a thawed one as it is", () -> x.nurse(1, true));
        due("it stays nursed", x.grudge(1, 5), 1);
        x.seasons(1);
        cannot("one that a season thawed", () -> x.nurse(2, true));
    }

    private static void sawing() {
        sentence("ICE is sawn from it for a family that is neither FROM nor TO it (LARDER is more, 999 at most; with ICE 0 it is not THAWED "
                + "by that);");
        GrudgeIce x = of(FOUR, SLIGHTS, "grudge 0 1 over b ice 999;grudge 2 3 over b ice 9;grudge 0 2 over a ice 0");
        due("all of it", x.saw(0, 2, 999), 0);
        due("larder at the most", x.family(2, 2), 999);
        grudge(x, 0, 0, 1, 1, 0, 0, 0, 0);
        due("not thawed", x.count(1), 7);
        row(x, 0, 0, 0, 2, 999);
        due("just one", x.saw(1, 1, 1), 8);
        due("larder 998 and 1", x.family(1, 2), 999);
        due("no more, but it is lost", x.saw(1, 1, 7), 1);
        due("larder 999 at most", x.family(1, 2), 999);
        row(x, 0, 0, 1, 2, 7);
        due("the last of it", x.saw(1, 0, 1), 0);
        due("larder", x.family(0, 2), 1);
        cannot("one without ice", () -> x.saw(1, 0, 1));
        cannot("one that had none", () -> x.saw(2, 1, 1));
        GrudgeIce y = of(FOUR, SLIGHTS, "grudge 0 1 over b ice 9;grudge 2 3 over b ice 9");
        cannot("for FROM", () -> y.saw(0, 0, 1));
        cannot("for TO", () -> y.saw(0, 1, 1));
        cannot("for FROM", () -> y.saw(1, 2, 1));
        cannot("for TO", () -> y.saw(1, 3, 1));
        cannot("more by one", () -> y.saw(0, 2, 10));
        cannot("far more", () -> y.saw(0, 2, 999));
        noNumber("0", () -> y.saw(0, 2, 0));
        noNumber("1000", () -> y.saw(0, 2, 1000));
        noNumber("below 0", () -> y.saw(0, 2, -1));
        due("nothing of these", y.count(10) + y.count(11), 0);
        due("just all", y.saw(0, 2, 9), 0);
        due("larder", y.family(2, 2), 9);
    }

    private static void storing() {
        sentence("ICE is stored (STORE is more, 9999 at most)");
        GrudgeIce x = of(FOUR, SLIGHTS, "grudge 0 1 over b ice 999;grudge 2 3 over b ice 9;grudge 0 2 over a ice 0", COLD);
        due("all of it", x.store(0, 999), 999);
        grudge(x, 0, 0, 1, 1, 0, 0, 0, 0);
        row(x, 0, 0, 0, 3, 999);
        due("just one", x.store(1, 1), 1000);
        cannot("more by one", () -> x.store(1, 9));
        cannot("one without ice", () -> x.store(0, 1));
        cannot("one that had none", () -> x.store(2, 1));
        noNumber("0", () -> x.store(1, 0));
        noNumber("1000", () -> x.store(1, 1000));
        noNumber("below 0", () -> x.store(1, -1));
        due("nothing of these", x.count(5) * 10 + x.count(11), 10002);
        due("just all", x.store(1, 8), 1008);
        due("not thawed by that", x.count(1), 7);
        GrudgeIce y = of(FOUR, "store 999;grudge 0 1 over b ice 999", COLD);
        law(y, "freeze 100");
        for (int n = 0; n < 9; n++) {
            y.store(0, 999);
            y.seasons(10);
        }
        due("store", y.count(5), 9990);
        due("just at the most", y.store(0, 9), 9999);
        due("no more, but it is lost", y.store(0, 90), 9999);
        due("its ice", y.grudge(0, 4), 900);
        row(y, 0, 90, 0, 3, 90);
        y.undo();
        y.undo();
        due("too much by far", y.store(0, 999), 9999);
    }

    private static void delivering() {
        sentence("ICE is delivered from STORE: LARDER then (999 at most).");
        GrudgeIce x = of(FOUR, "store 999");
        due("998 and 1", x.deliver(1, 1), 999);
        due("store", x.count(5), 998);
        due("no more, but it is lost", x.deliver(1, 1), 999);
        due("store", x.count(5), 997);
        due("999 and 7", x.deliver(3, 7), 999);
        cannot("more by one", () -> x.deliver(0, 991));
        noNumber("0", () -> x.deliver(0, 0));
        noNumber("1000", () -> x.deliver(0, 1000));
        noNumber("below 0", () -> x.deliver(0, -1));
        due("just all", x.deliver(0, 990), 990);
        due("store", x.count(5), 0);
        cannot("of an empty one", () -> x.deliver(0, 1));
        due("it is no row", x.count(10), 0);
        due("acts", x.count(11), 4);
        due("999 at once", of(FOUR, "store 999").deliver(0, 999), 999);
        cannot("of a new one", () -> of(FOUR).deliver(0, 1));
    }

    private static void doors() {
        sentence("the DOOR is PROPPED, or shut (each also if it changes nothing).");
        GrudgeIce x = new GrudgeIce();
        boolean[][] calls = {{false, false}, {true, true}, {true, false}, {false, true}, {false, false}};
        for (int n = 0; n < 5; n++) {
            due("whether that changed", x.prop(calls[n][0]), calls[n][1]);
            due("it is so", x.count(6) == 1, calls[n][0]);
            due("acts", x.count(11), n + 1);
        }
        int[] due = {0, 1, 1, 0, 0};
        for (int n = 0; n < 5; n++) {
            due("undone", x.undo(), true);
            due("as ahead of it", x.count(6), due[n]);
        }
        due("none any more", x.undo(), false);
        GrudgeIce full = of(FOUR, "store 5;grudge 0 1 over a ice 999");
        full.insult(0, 1, 0);
        full.nurse(0, false);
        full.deliver(3, 5);
        full.seasons(1);
        due("acts without a change", full.count(11), 4);
        due("propped by a text", of("propped").prop(true), false);
    }

    // ---- THE LOG

    private static void log() {
        sentence("THE LOG: the latest 60 times that a GRUDGE was THAWED by a SEASON (0), forgiven (1), sawn from (2), stored from (3), "
                + "kissed (4): TIME, the GRUDGE, 0 to 4, how much ICE it lost by that (0 of 0, 1).");
        GrudgeIce x = of(FOUR, "grudge 0 1 over a ice 3;grudge 1 0 over a ice 50;grudge 2 3 over a ice 60;grudge 3 2 over a ice 70", "time 7");
        due("no rows", x.count(10), 0);
        for (int ago : new int[] {0, 1, 59, 60, -1, Integer.MIN_VALUE, Integer.MAX_VALUE}) {
            for (int what = 0; what < 4; what++) due("none so many ago", x.log(ago, what), -1);
        }
        x.seasons(1);
        row(x, 0, 7, 0, 0, 0);
        x.forgive(1);
        row(x, 0, 8, 1, 1, 0);
        x.saw(2, 0, 11);
        row(x, 0, 8, 2, 2, 11);
        x.store(3, 13);
        row(x, 0, 8, 3, 3, 13);
        x.seed(1);
        town(x, "kiss 100;" + COLD);
        x.seasons(1);
        due("two are left: 5758 modulo 2 is 0", x.log(0, 1), 2);
        row(x, 0, 8, 2, 4, 23);
        row(x, 1, 8, 3, 3, 13);
        row(x, 4, 7, 0, 0, 0);
        due("five rows", x.count(10), 5);
        due("none so many ago", x.log(5, 0), -1);
        x.insult(0, 1, 0);
        x.nurse(2, true);
        x.deliver(0, 1);
        x.prop(true);
        due("others are no rows", x.count(10), 5);
        for (int what : new int[] {-1, 4, Integer.MIN_VALUE, Integer.MAX_VALUE}) {
            noWhat("what " + what, () -> x.log(0, what));
            noWhat("what " + what + " of none", () -> x.log(60, what));
            noWhat("what " + what + " below 0", () -> x.log(-1, what));
        }

        GrudgeIce y = of(FOUR, "grudge 0 1 over a ice 999;grudge 2 3 over a ice 999");
        y.store(1, 99);
        for (int n = 1; n <= 59; n++) {
            due("rows", y.count(10), n);
            y.store(0, n % 9 + 1);
        }
        due("sixty", y.count(10), 60);
        row(y, 59, 0, 1, 3, 99);
        due("rows of 1", y.led(1, false), 1);
        due("time of 1", y.led(1, true), 0);
        y.store(0, 100);
        due("sixty at most", y.count(10), 60);
        row(y, 0, 0, 0, 3, 100);
        row(y, 1, 0, 0, 3, 6);
        row(y, 59, 0, 0, 3, 2);
        due("none 60 ago", y.log(60, 0), -1);
        due("the oldest one is gone", y.led(1, false), 0);
        due("no time of it", y.led(1, true), -1);
        due("all are of the other one", y.led(0, false), 60);
        y.undo();
        row(y, 59, 0, 1, 3, 99);
        for (int n = 0; n < 61; n++) y.store(1, 1);
        due("none of 0 any more", y.led(0, false) * 100 + y.led(1, false), 60);
        y.forgive(0);
        due("but of the latest", y.led(0, false) * 100 + y.led(1, false), 159);
    }

    private static void manyAtOnce() {
        sentence("THE LOG: the latest 60 times");
        GrudgeIce x = of(FOUR, times(10, "grudge 0 1 over a ice 1"), "time 5");
        due("ten in a season", x.seasons(1), 10);
        for (int ago = 0; ago < 10; ago++) row(x, ago, 5, 9 - ago, 0, 0);
        GrudgeIce kissed = of(FOUR, "grudge 0 1 over a ice 999;kiss 100;time 999", COLD);
        law(kissed, "freeze 100");
        kissed.seasons(60);
        due("sixty kisses", kissed.count(10), 60);
        row(kissed, 59, 999, 0, 4, 500);
        kissed.seasons(1);
        due("sixty", kissed.count(10), 60);
        due("the oldest one now", kissed.log(59, 0), 1000);
        due("the latest one now", kissed.led(0, true), 1059);
        kissed.seasons(60);
        due("all are of the latest call", kissed.log(59, 0) * 10000 + kissed.log(0, 0), 1060 * 10000 + 1119);
        kissed.undo();
        due("as ahead of it", kissed.log(59, 0) * 10000 + kissed.log(0, 0), 1000 * 10000 + 1059);
    }

    private static void led() {
        sentence("LED: how many rows of THE LOG are of a GRUDGE; the TIME of the latest (none).");
        GrudgeIce x = of(FOUR, "grudge 0 1 over a ice 50;grudge 2 3 over a ice 60;grudge 0 3 over a ice 999", "time 9");
        for (int g = 0; g < 3; g++) due("none", x.led(g, false) * 10 + x.led(g, true), -1);
        x.store(0, 1);
        x.seasons(2);
        x.store(1, 1);
        x.saw(0, 2, 1);
        x.seasons(3);
        x.store(1, 1);
        int[][] due = {{2, 11}, {2, 14}, {0, -1}};
        for (int g = 0; g < 3; g++) {
            due("rows of " + g, x.led(g, false), due[g][0]);
            due("time of " + g, x.led(g, true), due[g][1]);
        }
        x.forgive(0);
        due("of a thawed one", x.led(0, false) * 100 + x.led(0, true), 314);
        for (int g : new int[] {-1, 3, 10, Integer.MIN_VALUE, Integer.MAX_VALUE}) {
            noSuch("led " + g, () -> x.led(g, false));
            noSuch("led " + g, () -> x.led(g, true));
        }
        GrudgeIce zero = of(FOUR, "grudge 0 1 over a ice 50");
        zero.store(0, 1);
        due("time 0", zero.led(0, true), 0);
    }

    // ---- UNDONE

    private static GrudgeIce acting() {
        GrudgeIce x = of(FOUR, SLIGHTS, "grudge 0 1 over a ice 500 nursed;grudge 1 0 over b ice 600;grudge 2 3 over c ice 2", "store 700;kiss 60");
        law(x, "freeze 3 if nursed;melt 1;harden 2 if mutual");
        return x;
    }

    private static void act(GrudgeIce x, int which) {
        switch (which % 12) {
            case 0: x.seasons(7); break;
            case 1: x.insult(0, 2, 1); break;
            case 2: x.insult(1, 0, 2); break;
            case 3: x.nurse(0, false); break;
            case 4: x.nurse(1, false); break;
            case 5: x.saw(1, 2, 7); break;
            case 6: x.store(0, 8); break;
            case 7: x.deliver(1, 9); break;
            case 8: x.prop(true); break;
            case 9: x.prop(true); break;
            case 10: x.forgive(1); break;
            default: x.seasons(1);
        }
    }

    private static void undoing() {
        sentence("UNDONE: the latest ACT not undone yet (12 are remembered; SEASONS of one call are one): all is as ahead of it "
                + "(but for the TAPE, fault(), THE IMAGE).");
        due("none at first", new GrudgeIce().undo(), false);
        for (int which = 0; which < 12; which++) {
            GrudgeIce x = acting();
            String before = State.of(x);
            act(x, which);
            due("one act", x.count(11), 1);
            due("undone", x.undo(), true);
            same("as ahead of act " + which, State.of(x), before);
            due("no more", x.undo(), false);
            same("as it was", State.of(x), before);
        }
        for (int acts : new int[] {11, 12, 13, 25}) {
            GrudgeIce x = of(FOUR, "store 999");
            for (int n = 1; n <= acts; n++) {
                x.deliver(0, n);
                due("at most 12", x.count(11), Math.min(12, n));
            }
            int[] larders = new int[acts + 1];
            for (int n = 1; n <= acts; n++) larders[n] = larders[n - 1] + n;
            int remembered = Math.min(12, acts);
            for (int n = 1; n <= remembered; n++) {
                due("undone " + n, x.undo(), true);
                due("as ahead of it", x.family(0, 2), larders[acts - n]);
                due("those that are left", x.count(11), remembered - n);
            }
            due("no more", x.undo(), false);
            due("it stays", x.family(0, 2), larders[acts - remembered]);
        }
        GrudgeIce x = of(FOUR, "store 999");
        for (int n = 0; n < 12; n++) x.deliver(0, 1);
        for (int n = 0; n < 5; n++) x.undo();
        for (int n = 0; n < 5; n++) x.deliver(2, 1);
        due("12 again", x.count(11), 12);
        for (int n = 0; n < 12; n++) {
            due("undone", x.undo(), true);
            due("larders", x.family(0, 2) * 10 + x.family(2, 2), n < 5 ? 74 - n : (11 - n) * 10);
        }
        due("no more", x.undo(), false);
    }

    private static void beside() {
        sentence("all is as ahead of it (but for the TAPE, fault(), THE IMAGE). A text, going back: none are remembered.");
        GrudgeIce x = acting();
        x.seed(42);
        x.prop(true);
        x.seed(43);
        tape(x, "kiss 100;kiss");
        noNumber("a wrong text", x::town);
        tape(x, "melt 5");
        x.image();
        due("undone", x.undo(), true);
        due("the seed is as ahead of it", x.seed(44), 42);
        due("fault is not", x.fault(), 13);
        due("the tape is not", x.end(7), false);
        due("the tape is not", x.end(6), true);
        due("it reads on", x.law(), 1);
        due("the image is not", x.back(), true);
        due("propped in it", x.count(6), 1);
        due("its seed", x.seed(1), 43);

        GrudgeIce y = acting();
        y.prop(true);
        y.nurse(0, false);
        tape(y, "kiss 101");
        noNumber("a wrong text", y::town);
        tape(y, "kiss 1");
        noNumber("a wrong law", y::law);
        tape(y, "#");
        noNumber("wrong cuts", y::ask);
        y.image();
        y.seed(5);
        due("all are remembered still", y.count(11), 2);
        town(y, "");
        due("a text: none", y.count(11), 0);
        due("none is undone", y.undo(), false);
        y.prop(true);
        law(y, "");
        due("a law: none", y.count(11), 0);
        due("none is undone", y.undo(), false);
        y.prop(true);
        y.prop(false);
        y.back();
        due("going back: none", y.count(11), 0);
        due("none is undone", y.undo(), false);
        y.prop(false);
        tape(y, "");
        y.cuts(false);
        y.trial(9, true);
        due("questions make none be forgotten", y.undo(), true);
        due("as ahead of it", y.count(6), 1);
        GrudgeIce full = acting();
        for (int n = 0; n < 8; n++) town(full, "");
        full.prop(true);
        tape(full, "kiss 1");
        throwsThat("a 13th text", UnsupportedOperationException.class, full::town);
        due("it is remembered still", full.count(11), 1);
    }

    // ---- THE IMAGE

    private static void image() {
        sentence("THE IMAGE (one) of all may be kept, and gone back to (but for the TAPE, fault() and THE IMAGE itself).");
        GrudgeIce none = acting();
        none.prop(true);
        String before = State.of(none);
        due("none was kept", none.back(), false);
        same("nothing happens", State.of(none), before);
        due("not even to acts", none.undo(), true);

        GrudgeIce x = acting();
        act(x, 5);
        act(x, 10);
        x.seed(-7);
        x.image();
        String kept = State.of(x);
        for (int which = 0; which < 4; which++) act(x, which);
        town(x, "family pride 9 needs 9;slight h bitter 9 deep 9;heat winter 20;store 1;kiss 1;time 1;grudge 1 0 over a ice 1");
        law(x, "freeze 100;melt 1");
        tape(x, "zz");
        noNumber("a wrong text", x::law);
        tape(x, "kiss 9");
        due("back", x.back(), true);
        same("all is as it was kept", State.of(x), kept);
        due("but acts", x.count(11), 0);
        due("but fault", x.fault(), 0);
        due("and the tape", x.end(7), false);
        due("and the tape", x.town(), 5);
        due("as it reads", x.count(7), 9);
        due("the image stays", x.back(), true);
        same("all is as it was kept", State.of(x), kept);

        GrudgeIce y = new GrudgeIce();
        y.image();
        town(y, FOUR);
        law(y, "melt 1");
        due("back to nothing", y.back(), true);
        due("no families", y.count(0) + y.count(2), 0);
        due("no law", y.count(3), -1);
        noSuch("no family", () -> y.family(0, 0));
        town(y, "store 7");
        y.image();
        y.prop(true);
        y.image();
        town(y, "store 9");
        due("one image, the latest", y.back(), true);
        due("it was propped", y.count(5) * 10 + y.count(6), 71);
        y.undo();
        due("undoing is none of it", y.count(6), 1);
        for (int n = 0; n < 14; n++) {
            town(y, "");
            due("the number of texts goes back, too", y.count(2), 2);
            y.back();
        }
    }

    public static void main(String[] args) {
        newGrudges();
        insultedOn();
        forgiven();
        nursing();
        sawing();
        storing();
        delivering();
        doors();
        log();
        manyAtOnce();
        led();
        undoing();
        beside();
        image();
        end("ActBoundsTest");
    }
}
