/** The bounds of THE LAW and of its text, sentence by sentence (promises 5, 6, 8). */
public final class LawBoundsTest extends Checks {
    private static final String THREE = "family pride 9 needs 99;family pride 0 needs 1;family pride 4 needs 1";
    private static final String GRUDGES = "slight a bitter 9 deep 9;grudge 0 1 over a ice 999 age 99 nursed;grudge 1 0 over h ice 0;"
            + "grudge 1 2 over b ice 9";

    private LawBoundsTest() {
    }

    /** Whether the condition holds of each of the three GRUDGES, as bits. */
    private static int holds(GrudgeIce x, String condition) {
        law(x, "harden 1 if " + condition);
        int bits = 0;
        for (int g = 0; g < 3; g++) bits |= x.grudge(g, 9) << g;
        return bits;
    }

    private static void holds(GrudgeIce x, String condition, int due) {
        due(condition, holds(x, condition), due);
    }

    private static GrudgeIce three() {
        return of(THREE, GRUDGES);
    }

    private static void inPlace() {
        sentence("THE LAW (a text, in place of the one before): LINE { ; LINE }, at most 12");
        for (int n = 1; n <= 12; n++) due(n + " lines", rightLaw(times(n, "melt 100")).count(3), n);
        due("12 short ones", rightLaw(times(12, "melt 5 if nursed")).count(3), 12);
        wrongLaw(times(12, "melt 5") + ";^melt 5");
        wrongLaw(times(12, "melt 5") + "  ;  ^harden");
        wrongLaw(times(12, "melt 5") + ";^zz");
        wrongLaw(times(12, "melt 5") + ";^");
        wrongLaw(times(12, "melt 5") + " ^melt 5");
        wrongLaw(times(11, "melt 5") + ";^");
        wrongLaw("^;melt 5");
        wrongLaw("melt 5;^;melt 5");
        GrudgeIce x = three();
        tape(x, times(6, "freeze 100;melt 100"));
        due("lines told", x.law(), 12);
        tape(x, "freeze 1");
        due("lines told", x.law(), 1);
        due("lines", x.count(3), 1);
        due("in place of all before", x.grudge(1, 7) * 100 + x.grudge(1, 8), 103);
        tape(x, "melt 1;freeze");
        noNumber("a wrong one", x::law);
        due("the one before stays", x.grudge(1, 7) * 100 + x.grudge(1, 8), 103);
        due("its lines stay", x.count(3), 1);
        for (int n = 0; n < 20; n++) due("any number of laws", law(x, "melt " + n), 1);
        due("they are no texts of the town", x.count(2), 2);
    }

    private static void empty() {
        sentence("A text that is empty, or blanks alone, has no LINE.");
        for (String text : new String[] {"", " ", " ".repeat(400)}) {
            GrudgeIce x = three();
            due("without a law", x.count(3), -1);
            due("without a law it freezes by bitter and 5", x.grudge(0, 7), 14);
            tape(x, text);
            due("no line", x.law(), 0);
            due("no fault", x.fault(), -1);
            due("no line", x.count(3), 0);
            due("nothing freezes", x.grudge(0, 7), 0);
            due("heat melts", x.grudge(0, 8), 3);
            due("nothing hardens", x.grudge(0, 9), 0);
        }
    }

    private static void numbers() {
        sentence("All numbers are of 1 to 3 digits (N 0 to 100).");
        for (String kind : new String[] {"freeze", "melt", "harden"}) {
            for (String n : new String[] {"0", "00", "000", "1", "100", "099"}) rightLaw(kind + " " + n);
            for (String n : new String[] {"101", "999", "0000", "0100", "1000", "00000000000", "4294967296", "-1"}) {
                wrongLaw(kind + " ^" + n);
                wrongLaw(kind + " ^" + n + " if nursed");
            }
        }
        for (String sum : new String[] {"@ < 1", "1 < @", "@ > 1", "1 > @", "1 + @ < 1", "1 < 1 + @", "@ + age > 1"}) {
            for (String n : new String[] {"0", "00", "000", "999", "101"}) rightLaw("melt 1 if " + sum.replace("@", n));
            for (String n : new String[] {"0000", "1000", "0999", "00000000000", "4294967297", "-1"}) {
                wrongLaw("melt 1 if " + sum.replace("@", "^" + n));
            }
        }
        GrudgeIce x = three();
        holds(x, "ice < 999", 6);
        holds(x, "ice > 998", 1);
        holds(x, "ice > 998 + 1", 0);
        holds(x, "999 + 999 + 999 > 999 + 999 + 998", 7);
        holds(x, times(20, "999").replace(";", "+") + " > " + times(19, "999").replace(";", "+") + "+998", 7);
    }

    private static void amounts() {
        sentence("FREEZES by: the sum of N of all freeze LINES that hold (without a text BITTER, and 5 more, if it is NURSED); "
                + "MELTS by: HEAT and that of all melt LINES; HARDENS by: that of all harden LINES.");
        GrudgeIce x = of(THREE, GRUDGES, "heat spring 20");
        int[][] without = {{14, 20, 0}, {0, 20, 0}, {0, 20, 0}};
        for (int i = 0; i < 9; i++) due("without a text", x.grudge(i / 3, 7 + i % 3), without[i / 3][i % 3]);
        x.nurse(1, true);
        due("nursed, and no bitter", x.grudge(1, 7), 5);
        x.nurse(0, false);
        due("not nursed", x.grudge(0, 7), 9);
        String[] kinds = {"freeze", "melt", "harden"};
        for (int k = 0; k < 3; k++) {
            law(x, times(12, kinds[k] + " 100"));
            for (int i = 0; i < 9; i++) {
                int due = (i % 3 == k ? 1200 : 0) + (i % 3 == 1 ? 20 : 0);
                due("12 lines of " + kinds[k], x.grudge(i / 3, 7 + i % 3), due);
            }
        }
        law(x, "freeze 1;melt 2 if ice > 998;freeze 4 if ice < 9;harden 8 if nursed;freeze 16 if not nursed;melt 32;harden 64 if 1 > 1");
        int[][] due = {{17, 54, 0}, {5, 52, 8}, {17, 52, 0}};
        for (int i = 0; i < 9; i++) due("those that hold", x.grudge(i / 3, 7 + i % 3), due[i / 3][i % 3]);
        town(x, "heat spring 0;time 5;heat summer 1");
        due("heat of the season", x.grudge(0, 8), 35);
    }

    private static void precedence() {
        sentence("C: ALL { or ALL }; ALL: ATOM { and ATOM }; ATOM: not ATOM | ( C ) | nursed | mutual | propped | SUM < SUM | SUM > SUM.");
        String[] truth = {"1 < 0", "0 < 1"};
        for (int bits = 0; bits < 16; bits++) {
            GrudgeIce x = three();
            boolean a = (bits & 1) != 0, b = (bits & 2) != 0, c = (bits & 4) != 0, d = (bits & 8) != 0;
            String[] t = {truth[bits & 1], truth[bits >> 1 & 1], truth[bits >> 2 & 1], truth[bits >> 3 & 1]};
            String[] told = {"A or B and C or D", "A and B or C and D", "A and not B and C or not D", "not A and B or C or D",
                "not (A or B) and (C or D)", "A and (B or C) and D", "not not A and not (B and C or D)", "A or B or C and D",
                "(A or B and C) and D", "not A or not B and not C and not D", "A and B and C and D", "A or B or C or D"};
            boolean[] due = {a || b && c || d, a && b || c && d, a && !b && c || !d, !a && b || c || d,
                !(a || b) && (c || d), a && (b || c) && d, a && !(b && c || d), a || b || c && d,
                (a || b && c) && d, !a || !b && !c && !d, a && b && c && d, a || b || c || d};
            for (int i = 0; i < told.length; i++) {
                String condition = told[i].replace("A", t[0]).replace("B", t[1]).replace("C", t[2]).replace("D", t[3]);
                holds(x, condition, due[i] ? 7 : 0);
            }
        }
    }

    private static void comparing() {
        sentence("SUM: PART { + PART }; PART: NUMBER | grudge | age | ice | pride | bitter | deep | heat | season.");
        int[][] values = {{0, 1, 2}, {99, 0, 0}, {999, 0, 9}, {9, 0, 0}, {9, 0, 0}, {9, 0, 0}, {20, 20, 20}, {3, 3, 3}};
        String[] parts = {"grudge", "age", "ice", "pride", "bitter", "deep", "heat", "season"};
        for (int p = 0; p < 8; p++) {
            GrudgeIce x = of(THREE, GRUDGES, "time 3;heat winter 20");
            for (int g = 0; g < 3; g++) {
                int v = values[p][g];
                due(parts[p] + " < " + v, holds(x, parts[p] + " < " + v) >> g & 1, 0);
                due(parts[p] + " > " + v, holds(x, parts[p] + " > " + v) >> g & 1, 0);
                due(parts[p] + " < " + (v + 1), holds(x, parts[p] + " < 1 + " + v) >> g & 1, 1);
                due(parts[p] + " + 1 > " + v, holds(x, v + " < 1 + " + parts[p]) >> g & 1, 1);
            }
        }
        GrudgeIce x = of(THREE, GRUDGES, "time 3;heat winter 20");
        holds(x, "ice + age + pride > 999 + 99 + 8", 1);
        holds(x, "ice + age + pride > 999 + 99 + 9", 0);
        holds(x, "heat + season + grudge > 24", 4);
        for (String part : parts) {
            wrongLaw("melt 1 if " + part + "^");
            wrongLaw("melt 1 if " + part + " +^");
            wrongLaw("melt 1 if " + part + " <^");
            wrongLaw("melt 1 if " + part + " < " + part + " ^<" + part);
            wrongLaw("melt 1 if " + part + " ^= 1");
            wrongLaw("melt 1 if " + part + " ^and nursed");
            wrongLaw("melt 1 if " + part + " ^s < 1");
            wrongLaw("melt 1 if ^" + part + "x < 1");
            wrongLaw("melt 1 if 1 > ^" + part + "x");
        }
        for (String word : new String[] {"nursed", "mutual", "propped", "slight", "over", "family", "needs", "larder", "store", "time",
            "kiss", "a", "spring", "freeze", "if", "and", "or"}) {
            wrongLaw("melt 1 if 1 < ^" + word);
            wrongLaw("melt 1 if 1 + ^" + word);
        }
    }

    private static void words() {
        sentence("Of a GRUDGE: pride: of the family FROM; bitter, deep: of its SLIGHT; heat: of the SEASON; mutual: there is a GRUDGE "
                + "back, that is not THAWED.");
        GrudgeIce x = of("family pride 3 needs 1;family pride 5 needs 1;family pride 7 needs 1",
                "slight c bitter 4 deep 6;slight d bitter 6 deep 4;grudge 0 1 over c ice 9;grudge 1 0 over d ice 9;grudge 0 2 over d ice 9");
        holds(x, "pride < 4", 5);
        holds(x, "pride > 4 and pride < 6", 2);
        holds(x, "bitter > 5", 6);
        holds(x, "deep > 5", 1);
        holds(x, "bitter + 2 < deep", 0);
        holds(x, "bitter + 1 < deep", 1);
        holds(x, "mutual", 3);
        x.forgive(0);
        holds(x, "mutual", 1);
        x.forgive(1);
        holds(x, "mutual", 0);
        x.insult(2, 0, 0);
        holds(x, "mutual", 4);
        holds(of(THREE, "grudge 0 1 over a ice 9;grudge 0 1 over a ice 9;grudge 1 2 over a ice 9"), "mutual", 0);
        holds(of(THREE, "grudge 0 1 over a ice 9;grudge 1 2 over a ice 9;grudge 2 0 over a ice 9"), "mutual", 0);
        holds(of(THREE, "grudge 0 1 over a ice 9;grudge 0 1 over a ice 9;grudge 1 0 over a ice 0"), "mutual", 7);
    }

    private static void deep() {
        sentence("( and not within one another at most 6 deep.");
        rightLaw("melt 1 if " + "(".repeat(6) + "nursed" + ")".repeat(6));
        rightLaw("melt 1 if " + "not ".repeat(6) + "nursed");
        rightLaw("melt 1 if not(not(not(nursed)))");
        rightLaw("melt 1 if (not(not(not nursed or nursed)))");
        wrongLaw("melt 1 if " + "(".repeat(6) + "^(nursed" + ")".repeat(7));
        wrongLaw("melt 1 if " + "not ".repeat(6) + "^not nursed");
        wrongLaw("melt 1 if not(not(not(^not nursed)))");
        wrongLaw("melt 1 if (not(not(not ^(nursed))))");
        wrongLaw("melt 1 if ((((((nursed and ^not nursed))))))");
        wrongLaw("melt 1 if ((((((nursed or ^(nursed)))))))");
        wrongLaw("melt 1 if ((((((1 > ^(2))))))");
        wrongLaw("melt 1 if not not not not not not ^(nursed)");
        wrongLaw("melt 1 if not not not not not not ^not");
        wrongLaw("melt 1 if ((((((^(");
        rightLaw("melt 1 if (((((not nursed)))))");
        rightLaw("melt 1 if " + times(7, "(nursed)").replace(";", "and"));
        rightLaw("melt 1 if " + times(7, "not nursed").replace(";", " or "));
        rightLaw("melt 1 if ((((((nursed)))))) and ((((((nursed)))))) or not not not not not not nursed");
        rightLaw("melt 1 if (((((nursed)and(nursed)))or(nursed)))and(((((not nursed)))))");
        wrongLaw("melt 1 if ((((((nursed)))))) and ((((((^(nursed)))))))");
        wrongLaw("melt 1 if ((((((nursed))))))^)");
        wrongLaw("melt 1 if ((((((nursed)))))^");
        GrudgeIce x = three();
        holds(x, "not not not not not not nursed", 1);
        holds(x, "not not not not not nursed", 6);
        holds(x, "((((((nursed))))))", 1);
        holds(x, "not(not(not(nursed or 1 > 2)or 2 < 1)or propped)", 6);
        String longest = "age+0<1 and(age+0<1 and(age+0<1 and(age+0<1 and(age+0<1 and(age+0<1 and(1+1>1 and 1<1+1))))))";
        holds(x, longest, 6);
        holds(x, longest.replace(" and", " or"), 7);
        holds(x, longest.replace("age+0<1 and", "propped or nursed and"), 1);
    }

    private static void forms() {
        sentence("freeze N [ if C ] | melt N [ if C ] | harden N [ if C ].");
        for (String kind : new String[] {"freeze", "melt", "harden"}) {
            wrongLaw(kind + "^");
            wrongLaw(kind + "  ^");
            wrongLaw(kind + "^;melt 1");
            wrongLaw(kind + " ^nursed");
            wrongLaw(kind + " ^if nursed");
            wrongLaw(kind + " 1 ^nursed");
            wrongLaw(kind + " 1 ^1");
            wrongLaw(kind + " 1 if^");
            wrongLaw(kind + " 1 if^;melt 1");
            wrongLaw(kind + " 1 ^ifnursed");
            wrongLaw("^" + kind + "s 1");
            wrongLaw("^" + kind.toUpperCase() + " 1");
            wrongLaw("^if nursed " + kind + " 1");
            wrongLaw(kind + " 1 if nursed ^if nursed");
            wrongLaw(kind + " 1 if nursed ^" + kind + " 1");
            rightLaw(kind + "1if(nursed)or not(mutual)and propped or 1<2;" + kind + "1");
            rightLaw("   " + kind + "   1   if   not   (  nursed  )   and  1  +  age  >  2  ;   " + kind + "  2  ");
        }
        wrongLaw("melt 1 if not^");
        wrongLaw("melt 1 if not ^;melt 1");
        wrongLaw("melt 1 if (^");
        wrongLaw("melt 1 if (^)");
        wrongLaw("melt 1 if (nursed^");
        wrongLaw("melt 1 if (nursed^;melt 1");
        wrongLaw("melt 1 if (nursed ^nursed)");
        wrongLaw("melt 1 if nursed ^)");
        wrongLaw("melt 1 if nursed and^");
        wrongLaw("melt 1 if nursed or^");
        wrongLaw("melt 1 if nursed and ^or nursed");
        wrongLaw("melt 1 if nursed or ^and nursed");
        wrongLaw("melt 1 if ^and nursed");
        wrongLaw("melt 1 if nursed ^not nursed");
        wrongLaw("melt 1 if nursed ^(nursed)");
        wrongLaw("melt 1 if nursed ^< 1");
        wrongLaw("melt 1 if nursed ^+ 1 < 1");
        wrongLaw("melt 1 if 1^");
        wrongLaw("melt 1 if 1 ^1 < 1");
        wrongLaw("melt 1 if 1 <^");
        wrongLaw("melt 1 if 1 < 1 ^> 1");
        wrongLaw("melt 1 if 1 < ^< 1");
        wrongLaw("melt 1 if 1 +^");
        wrongLaw("melt 1 if 1 + ^+ 1 < 1");
        wrongLaw("melt 1 if ^< 1");
        wrongLaw("melt 1 if 1 < 1 +^");
        wrongLaw("melt 1 if (1 ^) < 1");
        wrongLaw("melt 1 if not 1 ^and nursed");
        wrongLaw("^kiss 5");
        wrongLaw("^propped");
        wrongLaw("melt 1 ^, melt 1");
        wrongLaw("melt 1 ^. melt 1");
    }

    private static void lengths() {
        sentence("or the text's length, if more must come.");
        String head = "melt 1 if ";
        StringBuilder sum = new StringBuilder("0");
        for (int n = 0; n < 191; n++) sum.append("+1");
        String longest = head + sum + "<192  ";
        due("just 400 bytes", longest.length() <= 400, true);
        GrudgeIce x = three();
        law(x, longest + " ".repeat(400 - longest.length()));
        due("191 are below 192", x.grudge(0, 8), 4);
        String full = head + sum + "<191";
        law(x, full + " ".repeat(400 - full.length()));
        due("191 are not below 191", x.grudge(0, 8), 3);
        wrongLaw(head + sum + " ".repeat(400 - head.length() - sum.length()) + "^");
        wrongLaw(" ".repeat(396) + "melt^");
        wrongLaw("melt" + " ".repeat(396) + "^");
        rightLaw(" ".repeat(394) + "melt 1");
        wrongLaw("^" + "m".repeat(400));
        wrongLaw("melt ^" + "1".repeat(395));
        wrongLaw(head + "(".repeat(6) + "^" + "(".repeat(384));
        wrongLaw("^" + ";".repeat(400));
        wrongLaw(" ".repeat(399) + "^\0");
    }

    public static void main(String[] args) {
        inPlace();
        empty();
        numbers();
        amounts();
        precedence();
        comparing();
        words();
        deep();
        forms();
        lengths();
        end("LawBoundsTest");
    }
}
