import java.util.NoSuchElementException;

/** Each refused call: what it throws, which of several comes first, and that it changes nothing else; and that questions change nothing. */
public final class RefusalsTest extends Checks {
    private static final Class<IndexOutOfBoundsException> NO_SUCH = IndexOutOfBoundsException.class;
    private static final Class<IllegalArgumentException> NO_NUMBER = IllegalArgumentException.class;
    private static final Class<IllegalStateException> CANNOT = IllegalStateException.class;
    private static final Class<NoSuchElementException> NO_WHAT = NoSuchElementException.class;
    private static final int LEAST = Integer.MIN_VALUE;
    private static final int MOST = Integer.MAX_VALUE;
    private static final String LAW = "freeze 2;melt 9";

    /** A call of the face, put to an object. */
    interface Act {
        Object on(GrudgeIce x);
    }

    private RefusalsTest() {
    }

    /** Four families, four GRUDGES of which the third is forgiven; acts, rows, a seed, an image, a fault and a law on the TAPE. */
    private static GrudgeIce made() {
        GrudgeIce x = of("family pride 1 needs 3 larder 9;family pride 2 needs 5;family pride 3 needs 9;family pride 4 needs 0",
                "slight b bitter 9 deep 2;heat autumn 7;store 500;kiss 50;time 6",
                "grudge 0 1 over b ice 99;grudge 1 0 over a ice 50 nursed;grudge 1 2 over c ice 999 age 9;grudge 2 3 over h ice 9");
        law(x, "freeze 4 if mutual;melt 1;harden 1 if nursed");
        x.seed(77);
        x.saw(0, 2, 1);
        x.image();
        x.prop(true);
        x.forgive(2);
        x.deliver(1, 7);
        x.store(1, 1);
        x.seasons(1);
        x.seed(-5);
        tape(x, "kiss 1;kiss");
        noNumber("a wrong text", x::town);
        tape(x, LAW);
        return x;
    }

    /** All that can be told of both is alike, what they would go back to as well; the TAPE holds the law, or nothing. */
    private static void alike(String what, GrudgeIce x, GrudgeIce y, boolean emptied) {
        due(what + ": fault stays", x.fault(), y.fault());
        due(what + ": acts stay", x.count(11), y.count(11));
        same(what + ": nothing changed", State.of(x), State.of(y));
        due(what + ": the tape's length", x.end(LAW.length() + 1), false);
        due(what + ": the tape", x.end(LAW.length()), !emptied);
        for (int n = 0; n < 4; n++) {
            due(what + ": undone alike", x.undo(), y.undo());
            if (n % 3 == 0) same(what + ": undone alike", State.of(x), State.of(y));
        }
        due(what + ": back alike", x.back(), y.back());
        same(what + ": back alike", State.of(x), State.of(y));
        if (!emptied) {
            due(what + ": the tape reads as before", x.law(), 2);
            due(what + ": the tape reads as before", x.grudge(0, 7) * 100 + x.grudge(0, 8), 216);
        }
    }

    private static void refused(String what, Class<? extends RuntimeException> due, Act act) {
        refused(what, due, act, false);
    }

    private static void refused(String what, Class<? extends RuntimeException> due, Act act, boolean usesTape) {
        GrudgeIce x = made();
        throwsThat(what, due, () -> act.on(x));
        alike(what, x, made(), usesTape);
    }

    private static void asks(String what, Act act) {
        GrudgeIce x = made();
        act.on(x);
        alike(what, x, made(), false);
    }

    // ---- texts and cuts

    private static void texts() {
        sentence("a call that throws changes nothing but the TAPE, where it is used up, and fault(), where a text is read (also by one that is "
                + "refused).");
        refused("a law as a town", NO_NUMBER, x -> {
            tape(x, "kiss 1;kiss");
            return x.town();
        }, true);
        refused("a wrong law", NO_NUMBER, x -> {
            tape(x, "melt 1;melt");
            return x.law();
        }, true);
        refused("wrong cuts", NO_NUMBER, x -> x.cuts(false), true);
        refused("wrong cuts, likely", NO_NUMBER, x -> x.cuts(true), true);
        refused("wrong cuts to ask by", NO_NUMBER, GrudgeIce::ask, true);
        GrudgeIce x = made();
        noNumber("a law is no town", x::town);
        due("the fault of the refused one", x.fault(), 0);
        tape(x, "melt 1");
        due("a right one", x.law(), 1);
        due("no fault", x.fault(), -1);
        tape(x, "melt");
        noNumber("cut off", x::law);
        due("the fault of the refused one", x.fault(), 4);
        tape(x, "\0");
        noNumber("cuts are no text", x::ask);
        due("its fault is none of a text", x.fault(), 4);
    }

    private static void thirteenth() {
        sentence("Uses the TAPE up: a text of THE TOWN: how many texts there are. IllegalArgumentException: it is wrong; "
                + "UnsupportedOperationException: there are 12.");
        String[] texts = {"kiss 9", "", "kiss 101", "kiss", "zz"};
        int[] faults = {-1, -1, 5, 4, 0};
        for (int i = 0; i < texts.length; i++) {
            GrudgeIce x = full();
            GrudgeIce y = full();
            tape(x, texts[i]);
            Class<? extends RuntimeException> due = faults[i] < 0 ? UnsupportedOperationException.class : NO_NUMBER;
            throwsThat("a 13th text: " + texts[i], due, x::town);
            due("its fault", x.fault(), faults[i]);
            due("the tape is used up", x.end(1), false);
            due("12 texts", x.count(2), 12);
            due("acts stay", x.count(11), 2);
            same("nothing changed", State.of(x), State.of(y));
            due("undone alike", x.undo(), y.undo());
            same("undone alike", State.of(x), State.of(y));
            due("back alike", x.back(), y.back());
            same("back alike", State.of(x), State.of(y));
        }
        GrudgeIce x = full();
        noNumber("a wrong 13th one", () -> town(x, "kiss 101"));
        due("its fault", x.fault(), 5);
        throwsThat("a right 13th one", UnsupportedOperationException.class, () -> town(x, "kiss 9"));
        due("it was read: no fault", x.fault(), -1);
        x.back();
        due("texts of the image", x.count(2), 3);
        due("there is room again", town(x, "kiss 9"), 4);
    }

    private static GrudgeIce full() {
        GrudgeIce x = of("family pride 1 needs 3;family pride 1 needs 4", "grudge 0 1 over a ice 99", "store 50");
        x.image();
        for (int n = 0; n < 9; n++) town(x, "time " + n);
        x.prop(true);
        x.store(0, 9);
        return x;
    }

    // ---- what there is not

    private static void numbers() {
        sentence("IndexOutOfBoundsException: there is no such family, GRUDGE, SLIGHT, SEASON.");
        for (int n : new int[] {-1, 4, 6, 10, LEAST, MOST}) {
            refused("family " + n, NO_SUCH, x -> x.family(n, 0));
            refused("grudge " + n, NO_SUCH, x -> x.grudge(n, 0));
            refused("heat " + n, NO_SUCH, x -> x.heat(n));
            refused("insult by " + n, NO_SUCH, x -> x.insult(n, 0, 0));
            refused("insult of " + n, NO_SUCH, x -> x.insult(0, n, 0));
            refused("forgive " + n, NO_SUCH, x -> x.forgive(n));
            refused("nurse " + n, NO_SUCH, x -> x.nurse(n, true));
            refused("saw from " + n, NO_SUCH, x -> x.saw(n, 3, 1));
            refused("saw for " + n, NO_SUCH, x -> x.saw(0, n, 1));
            refused("store from " + n, NO_SUCH, x -> x.store(n, 1));
            refused("deliver to " + n, NO_SUCH, x -> x.deliver(n, 1));
            refused("steps from " + n, NO_SUCH, x -> x.steps(n, 0));
            refused("steps to " + n, NO_SUCH, x -> x.steps(0, n));
            refused("ring " + n, NO_SUCH, x -> x.ring(n));
            if (n != -1) refused("kisses " + n, NO_SUCH, x -> x.kisses(n));
            refused("shares " + n, NO_SUCH, x -> x.shares(n, 1));
            refused("swap of " + n, NO_SUCH, x -> x.swap(n, 0));
            refused("swap with " + n, NO_SUCH, x -> x.swap(0, n));
            refused("rests " + n, NO_SUCH, x -> x.rests(n));
            refused("ahead " + n, NO_SUCH, x -> x.ahead(n, 1));
            refused("larder " + n, NO_SUCH, x -> x.larder(n, 1));
            refused("led " + n, NO_SUCH, x -> x.led(n, true));
        }
        for (int n : new int[] {-1, 8, LEAST, MOST}) {
            refused("slight " + n, NO_SUCH, x -> x.slight(n, 0));
            refused("insult over " + n, NO_SUCH, x -> x.insult(0, 1, n));
        }
    }

    private static void whats() {
        sentence("Of a GRUDGE (THAWED or not) what 0 FROM, 1 TO, 2 the SLIGHT, 3 AGE, 4 ICE, 5 1 if NURSED, 6 1 if THAWED, 7, 8, 9 what it "
                + "FREEZES, MELTS, HARDENS by now (as if it was not THAWED), 10 SHARE (0, if it is THAWED). NoSuchElementException: another what.");
        for (int n : new int[] {-1, LEAST, MOST}) {
            refused("family what " + n, NO_WHAT, x -> x.family(0, n));
            refused("grudge what " + n, NO_WHAT, x -> x.grudge(0, n));
            refused("slight what " + n, NO_WHAT, x -> x.slight(0, n));
            refused("log what " + n, NO_WHAT, x -> x.log(0, n));
            refused("log of none, what " + n, NO_WHAT, x -> x.log(-1, n));
            due("count " + n, made().count(n), -1);
        }
        refused("family what 7", NO_WHAT, x -> x.family(0, 7));
        refused("grudge what 11", NO_WHAT, x -> x.grudge(0, 11));
        refused("grudge what 11 of a thawed one", NO_WHAT, x -> x.grudge(2, 11));
        refused("slight what 3", NO_WHAT, x -> x.slight(0, 3));
        refused("log what 4", NO_WHAT, x -> x.log(0, 4));
        refused("log of none, what 4", NO_WHAT, x -> x.log(60, 4));
        due("count 12", made().count(12), -1);
        int[] family = {2, 5, 2, 0, 140, 1, 16};
        for (int what = 0; what < 7; what++) due("family what " + what, made().family(1, what), family[what]);
        int[] grudge = {1, 0, 0, 1, 46, 1, 0, 4, 4, 1, 32};
        for (int what = 0; what < 11; what++) due("grudge what " + what, made().grudge(1, what), grudge[what]);
        int[] thawed = {1, 2, 2, 9, 999, 0, 1, 0, 4, 0, 0};
        for (int what = 0; what < 11; what++) due("thawed, what " + what, made().grudge(2, what), thawed[what]);
        int[] slight = {9, 2, 1};
        for (int what = 0; what < 3; what++) due("slight what " + what, made().slight(1, what), slight[what]);
        int[] row = {6, 1, 3, 1};
        for (int what = 0; what < 4; what++) due("log what " + what, made().log(0, what), row[what]);
    }

    // ---- numbers that are none

    private static void numbersThatAreNone() {
        sentence("IllegalArgumentException: a number is none, or two are one.");
        for (int n : new int[] {0, -1, 61, LEAST, MOST}) refused("seasons " + n, NO_NUMBER, x -> x.seasons(n));
        for (int n : new int[] {0, -1, 1000, LEAST, MOST}) {
            refused("saw " + n, NO_NUMBER, x -> x.saw(0, 3, n));
            refused("store " + n, NO_NUMBER, x -> x.store(0, n));
            refused("deliver " + n, NO_NUMBER, x -> x.deliver(0, n));
        }
        for (int n : new int[] {-1, 1000, LEAST, MOST}) {
            refused("thaw " + n, NO_NUMBER, x -> x.thaw(n));
            refused("shares " + n, NO_NUMBER, x -> x.shares(0, n));
        }
        for (int n : new int[] {-1, 7, LEAST, MOST}) {
            refused("odds of n " + n, NO_NUMBER, x -> x.odds(n, 0));
            refused("odds of k " + n, NO_NUMBER, x -> x.odds(0, n));
        }
        for (int n : new int[] {-1, 61, LEAST, MOST}) {
            refused("ahead " + n, NO_NUMBER, x -> x.ahead(0, n));
            refused("larder " + n, NO_NUMBER, x -> x.larder(0, n));
            refused("trial " + n, NO_NUMBER, x -> x.trial(n, n < 0));
            refused("span " + n, NO_NUMBER, x -> x.span(n, n < 0));
        }
        for (int f = 0; f < 4; f++) {
            int family = f;
            refused("insult of itself " + f, NO_NUMBER, x -> x.insult(family, family, 0));
            refused("swap with itself " + f, NO_NUMBER, x -> x.swap(family, family));
        }
    }

    // ---- what cannot be

    private static void cannotBe() {
        sentence("IllegalStateException: it cannot be.");
        refused("forgive a thawed one", CANNOT, x -> x.forgive(2));
        refused("nurse a thawed one", CANNOT, x -> x.nurse(2, true));
        refused("nurse a thawed one, as it is", CANNOT, x -> x.nurse(2, false));
        refused("saw a thawed one", CANNOT, x -> x.saw(2, 0, 1));
        refused("saw for FROM", CANNOT, x -> x.saw(0, 0, 1));
        refused("saw for TO", CANNOT, x -> x.saw(0, 1, 1));
        refused("saw more than there is", CANNOT, x -> x.saw(1, 3, 47));
        refused("store of a thawed one", CANNOT, x -> x.store(2, 1));
        refused("store more than there is", CANNOT, x -> x.store(1, 47));
        due("made so that", made().grudge(1, 4), 46);
        refused("deliver more than there is", CANNOT, x -> x.deliver(0, 460));
        due("made so that", made().count(5), 459);
        GrudgeIce[] full = new GrudgeIce[2];
        for (int i = 0; i < 2; i++) {
            full[i] = made();
            town(full[i], times(6, "grudge 3 2 over a ice 1"));
            full[i].forgive(9);
            full[i].nurse(0, true);
        }
        cannot("an 11th one", () -> full[0].insult(3, 1, 0));
        cannot("though one is thawed", () -> full[0].insult(1, 2, 0));
        due("acts stay", full[0].count(11), 2);
        same("nothing changed", State.of(full[0]), State.of(full[1]));
        full[0].undo();
        full[1].undo();
        same("undone alike", State.of(full[0]), State.of(full[1]));
        noNumber("two that are one come ahead of an 11th one", () -> full[0].insult(1, 1, 0));
        noSuch("a slight that is none comes ahead of an 11th one", () -> full[0].insult(3, 1, 8));
        due("the last one can be insulted on", full[0].insult(3, 2, 0), 4);
    }

    private static void firsts() {
        sentence("Of several exceptions the one told first is thrown;");
        for (int f : new int[] {-1, 4}) {
            refused("no family, no what", NO_SUCH, x -> x.family(f, 7));
            refused("no grudge, no what", NO_SUCH, x -> x.grudge(f, 11));
            refused("both no family", NO_SUCH, x -> x.insult(f, f, 0));
            refused("no family, no slight", NO_SUCH, x -> x.insult(f, f, 8));
            refused("no grudge, no number", NO_SUCH, x -> x.saw(f, 0, 0));
            refused("no family, no number", NO_SUCH, x -> x.saw(0, f, 0));
            refused("no family, thawed", NO_SUCH, x -> x.saw(2, f, 1));
            refused("no family, more than there is", NO_SUCH, x -> x.saw(0, f, 999));
            refused("no grudge, no number", NO_SUCH, x -> x.store(f, 0));
            refused("no family, no number", NO_SUCH, x -> x.deliver(f, 1000));
            refused("no family, more than there is", NO_SUCH, x -> x.deliver(f, 999));
            refused("no family, no number", NO_SUCH, x -> x.shares(f, -1));
            refused("both no family", NO_SUCH, x -> x.swap(f, f));
            refused("no grudge, no number", NO_SUCH, x -> x.ahead(f, 61));
            refused("no family, no number", NO_SUCH, x -> x.larder(f, -1));
        }
        refused("no slight, no what", NO_SUCH, x -> x.slight(8, 3));
        refused("no slight, no what", NO_SUCH, x -> x.slight(-1, -1));
        refused("no slight, both are one", NO_SUCH, x -> x.insult(1, 1, 8));
        refused("no slight, both are one", NO_SUCH, x -> x.insult(1, 1, -1));
        refused("no number, thawed", NO_NUMBER, x -> x.saw(2, 0, 0));
        refused("no number, for FROM", NO_NUMBER, x -> x.saw(0, 0, 1000));
        refused("no number, more than there is", NO_NUMBER, x -> x.saw(0, 3, 1000));
        refused("no number, thawed", NO_NUMBER, x -> x.store(2, 0));
        refused("no number, more than there is", NO_NUMBER, x -> x.store(0, 1000));
        refused("no number, more than there is", NO_NUMBER, x -> x.deliver(0, 1000));
    }

    // ---- questions

    private static void questions() {
        sentence("Nothing is promised beyond the answers and state changes described above");
        asks("family", x -> x.family(0, 4) + x.family(1, 5) + x.family(2, 6));
        asks("grudge", x -> x.grudge(0, 7) + x.grudge(0, 8) + x.grudge(0, 9) + x.grudge(0, 10));
        asks("slight, heat, fault", x -> x.slight(1, 2) + x.heat(3) + x.fault());
        asks("cold, stock, scarce, hot", x -> x.cold() + x.stock() + x.scarce() + x.hot());
        asks("keeps, tight, misses", x -> x.keeps() + x.tight() + x.misses(5));
        asks("thaw, friends", x -> x.thaw(50) + x.friends());
        asks("camps", x -> x.camps(true) + x.camps(false));
        asks("rota, steps, ring", x -> x.rota() + x.steps(0, 3) + (x.ring(0) ? 1 : 0));
        asks("feud, between, kisses", x -> x.feud() + x.between() + x.kisses(-1) + x.kisses(0));
        asks("shares, swap, rests", x -> x.shares(0, 99) + (x.swap(0, 1) ? 1 : 0) + x.rests(0) + x.rests(2));
        asks("odds", x -> x.odds(6, 3));
        asks("oldest, blue, nursed, mutual", x -> x.oldest() + x.blue() + x.nursed() + x.mutual());
        asks("proud, offs, twins", x -> x.proud() + x.offs() + x.twins());
        asks("ahead, larder", x -> x.ahead(0, 60) + x.larder(0, 60));
        asks("trial", x -> x.trial(60, true) + x.trial(60, false));
        asks("span", x -> x.span(60, true) + x.span(60, false));
        asks("led, log, count", x -> x.led(0, true) + x.led(1, false) + x.log(0, 3) + x.log(99, 0) + x.count(99));
        asks("an end that is none", x -> x.end(-1) || x.end(LAW.length() + 1));
        asks("an end as it is", x -> x.end(LAW.length()));
    }

    public static void main(String[] args) {
        texts();
        thirteenth();
        numbers();
        whats();
        numbersThatAreNone();
        cannotBe();
        firsts();
        questions();
        end("RefusalsTest");
    }
}
