/** The bounds of what is asked of who has a GRUDGE with whom, sentence by sentence (promises 31 to 36). */
public final class WebBoundsTest extends Checks {
    private static final int[] NONE_SUCH = {-1, 6, Integer.MIN_VALUE, Integer.MAX_VALUE};

    private WebBoundsTest() {
    }

    private static String families(int... prides) {
        StringBuilder told = new StringBuilder();
        for (int pride : prides) told.append(told.length() > 0 ? ";" : "").append("family pride ").append(pride).append(" needs 1");
        return told.toString();
    }

    /** Grudges as "01 12": of 0 to 1, of 1 to 2; of ICE 9 each. */
    private static String grudges(String pairs) {
        StringBuilder told = new StringBuilder();
        for (String pair : pairs.split(" ")) {
            told.append(told.length() > 0 ? ";" : "").append("grudge ").append(pair.charAt(0)).append(' ');
            told.append(pair.charAt(1)).append(" over a ice 9");
        }
        return told.toString();
    }

    private static GrudgeIce of(int many, String pairs) {
        GrudgeIce x = of(many == 0 ? "" : families(new int[many]));
        if (!pairs.isEmpty()) town(x, grudges(pairs));
        return x;
    }

    private static void rota() {
        sentence("ROTA: the fewest insults (each of one family to another one) so that each family has a GRUDGE, FROM it or TO it: how many; "
                + "none, if there is just one family.");
        int[] due = {0, -1, 1, 2, 2, 3, 3};
        for (int n = 0; n <= 6; n++) due("of " + n + " families", of(n, "").rota(), due[n]);
        String[] pairs = {"01", "10", "01 10", "01 23", "01 12", "01 02 03 04", "01 02 03 04 05", "12 34 50"};
        int[] six = {2, 2, 2, 1, 2, 1, 0, 0};
        for (int i = 0; i < pairs.length; i++) due("six with " + pairs[i], of(6, pairs[i]).rota(), six[i]);
        due("two with one", of(2, "10").rota(), 0);
        due("three with one", of(3, "10").rota(), 1);
        GrudgeIce x = of(2, "10");
        x.forgive(0);
        due("thawed", x.rota(), 1);
        x.insult(0, 1, 0);
        due("insulted", x.rota(), 0);
    }

    private static void steps() {
        sentence("STEPS of two families: by how many GRUDGES (either way) one comes from the one to the other one, the fewest; none.");
        GrudgeIce line = of(6, "01 21 23 43 45");
        GrudgeIce ring = of(6, "01 21 23 43 45 05");
        GrudgeIce parts = of(6, "01 12 34");
        int[] part = {0, 0, 0, 1, 1, 2};
        for (int f = 0; f < 6; f++) {
            for (int o = 0; o < 6; o++) {
                int far = Math.abs(f - o);
                due("in a line", line.steps(f, o), far);
                due("in a ring", ring.steps(f, o), Math.min(far, 6 - far));
                due("in parts", parts.steps(f, o), part[f] == part[o] ? far : -1);
            }
        }
        for (int f : NONE_SUCH) {
            noSuch("from " + f, () -> line.steps(f, 0));
            noSuch("to " + f, () -> line.steps(0, f));
            noSuch("both", () -> line.steps(f, f));
        }
        due("to itself without grudges", of(1, "").steps(0, 0), 0);
        GrudgeIce two = of(2, "01 10");
        two.forgive(0);
        due("by the other one still", two.steps(0, 1), 1);
        two.forgive(1);
        due("none any more", two.steps(0, 1), -1);
        due("to itself", two.steps(1, 1), 0);
    }

    private static void ring() {
        sentence("RING of a family: whether by GRUDGES, FROM one TO the next one, one comes back to it.");
        String[] rows = {"01 10", "01 01", "01 12 20", "01 12 02", "01 12 23 34 45 50", "10 21 32 43 54 05", "01 12 23 34 45 05", "01 12 21",
            "12 21 10 01 34", "01 12 23 31 40", "01 20"};
        int[] due = {3, 0, 7, 0, 63, 63, 0, 6, 7, 14, 0};
        for (int i = 0; i < rows.length; i++) {
            GrudgeIce x = of(6, rows[i]);
            for (int f = 0; f < 6; f++) due(f + " of " + rows[i], x.ring(f), (due[i] >> f & 1) == 1);
        }
        GrudgeIce x = of(6, "01 12 20");
        for (int f = 0; f < 6; f++) due("three", x.ring(f), f < 3);
        x.forgive(1);
        for (int f = 0; f < 6; f++) due("none any more", x.ring(f), false);
        x.insult(1, 2, 0);
        for (int f = 0; f < 6; f++) due("three again", x.ring(f), f < 3);
        due("one family", of(1, "").ring(0), false);
        for (int f : NONE_SUCH) noSuch("ring of " + f, () -> x.ring(f));
        noSuch("without families", () -> new GrudgeIce().ring(0));
    }

    private static void feud() {
        sentence("FEUD (1 of families without GRUDGES, 0 without families).");
        due("without families", new GrudgeIce().feud(), 0);
        for (int n = 1; n <= 6; n++) due("without grudges", of(n, "").feud(), 1);

        sentence("FEUD: the most families that are all one by GRUDGES (either way, on and on): how many.");
        String[] rows = {"01", "01 10", "01 23", "01 12", "10 12", "01 23 45", "01 12 34", "34 45 01", "01 21 23 43", "01 21 23 43 45", "05 54 43 32 21"};
        int[] due = {2, 2, 2, 3, 3, 2, 3, 3, 5, 6, 6};
        for (int i = 0; i < rows.length; i++) due("of " + rows[i], of(6, rows[i]).feud(), due[i]);
        GrudgeIce x = of(6, "01 21 23 43 45");
        x.forgive(2);
        due("two parts of three", x.feud(), 3);
        x.forgive(1);
        due("three are left of the other part", x.feud(), 3);
        x.forgive(4);
        due("pairs", x.feud(), 2);
    }

    private static void between() {
        sentence("BETWEEN: the GRUDGES without each of which, alone, two families of a FEUD would not be of one FEUD any more, as bits.");
        due("without families", new GrudgeIce().between(), 0);
        String[] rows = {"01", "01 01", "01 10", "01 12", "01 12 20", "01 12 20 23", "01 12 20 23 32", "01 12 20 34 45 53 03", "05 54 43 32 21",
            "01 12 23 30 02 45"};
        int[] due = {1, 0, 0, 3, 0, 8, 0, 64, 31, 32};
        for (int i = 0; i < rows.length; i++) due("of " + rows[i], of(6, rows[i]).between(), due[i]);
        GrudgeIce x = of(6, "01 12 20 01");
        x.forgive(1);
        due("without the second", x.between(), 4);
        x.forgive(0);
        due("without the first", x.between(), 4 + 8);
        GrudgeIce ten = of(6, "01 10 12 21 23 32 34 43 45 54");
        due("each twice", ten.between(), 0);
        ten.forgive(9);
        due("the last but one", ten.between(), 256);
    }

    private static void kisses() {
        sentence("KISSES: families put two by two, each in one such pair at most, no two with a GRUDGE between them, so that PRIDE of all in "
                + "pairs together is the most: how much;");
        due("without families", new GrudgeIce().kisses(-1), 0);
        due("one alone", of(families(9)).kisses(-1), 0);
        due("two", of(families(9, 8)).kisses(-1), 17);
        due("of three the most", of(families(9, 8, 7)).kisses(-1), 17);
        due("of three the most", of(families(7, 8, 9)).kisses(-1), 17);
        due("six", of(families(9, 9, 9, 9, 9, 9)).kisses(-1), 54);
        due("no two with one", of(families(9, 8, 7), grudges("01")).kisses(-1), 16);
        due("either way", of(families(9, 8, 7), grudges("10")).kisses(-1), 16);
        due("all have one", of(families(9, 8, 7), grudges("01 21 20")).kisses(-1), 0);
        GrudgeIce x = of(families(9, 8, 7), grudges("01"));
        x.forgive(0);
        due("a thawed one is none", x.kisses(-1), 17);
        due("only one pair of four", of(families(1, 2, 3, 4), grudges("01 02 12 13 23")).kisses(-1), 5);

        sentence("with whom a family is in the first such way (family by family, none being the least, then the others); none.");
        int[][] prides = {{0}, {0, 0}, {0, 0, 0}, {1, 0}, {0, 1, 0}, {0, 0, 1}, {5, 5, 5}, {0, 5, 0, 5}, {1, 1, 1, 1}, {0, 0, 0, 0, 0, 1},
            {1, 1, 1, 1, 1, 1}, {9, 0, 0, 0, 0, 9}};
        int[][] due = {{-1}, {-1, -1}, {-1, -1, -1}, {1, 0}, {-1, 2, 1}, {-1, 2, 1}, {-1, 2, 1}, {-1, 3, -1, 1}, {1, 0, 3, 2},
            {-1, -1, -1, -1, 5, 4}, {1, 0, 3, 2, 5, 4}, {1, 0, -1, -1, 5, 4}};
        for (int i = 0; i < prides.length; i++) {
            GrudgeIce y = of(families(prides[i]));
            for (int f = 0; f < prides[i].length; f++) due("row " + i + " family " + f, y.kisses(f), due[i][f]);
        }
        GrudgeIce y = of(families(1, 1, 1, 1), grudges("01"));
        int[] second = {2, 3, 0, 1};
        for (int f = 0; f < 4; f++) due("not with 1", y.kisses(f), second[f]);
        GrudgeIce z = of(families(1, 1, 1, 1), grudges("01 20"));
        int[] third = {3, 2, 1, 0};
        for (int f = 0; f < 4; f++) due("not with 1, 2", z.kisses(f), third[f]);
        GrudgeIce u = of(families(5, 0, 5, 0), grudges("20"));
        int[] fourth = {1, 0, 3, 2};
        for (int f = 0; f < 4; f++) due("each with another one", u.kisses(f), fourth[f]);
        GrudgeIce full = of(families(1, 1, 1, 1, 1, 1));
        for (int f : new int[] {-2, 6, Integer.MIN_VALUE, Integer.MAX_VALUE}) noSuch("kisses of " + f, () -> full.kisses(f));
        noSuch("without families", () -> new GrudgeIce().kisses(0));
    }

    public static void main(String[] args) {
        rota();
        steps();
        ring();
        feud();
        between();
        kisses();
        end("WebBoundsTest");
    }
}
