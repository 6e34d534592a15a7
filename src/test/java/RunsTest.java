import java.lang.reflect.InvocationTargetException;
import java.lang.reflect.Method;
import java.util.ArrayList;
import java.util.Arrays;
import java.util.Comparator;
import java.util.List;
import java.util.Map;
import java.util.Random;
import java.util.TreeMap;

/** Runs of calls, made by a fixed rule, put to the class and to the model: all promises, one behind another. */
public final class RunsTest {
    private static final int RUNS = 600;
    private static final int CALLS = 512;

    private static final Map<String, Method> FACE = new TreeMap<>();
    private static final Map<String, Method> MODEL = new TreeMap<>();
    private static final Map<String, Integer> ANSWERED = new TreeMap<>();
    private static final Map<String, Integer> THREW = new TreeMap<>();

    private final Random random;
    private final GrudgeIce town = new GrudgeIce();
    private final Model model = new Model();
    private final List<String> told = new ArrayList<>();
    private final int wild;
    private final boolean manyTexts;

    private RunsTest(long seed) {
        random = new Random(seed);
        wild = random.nextInt(3);
        manyTexts = random.nextInt(4) == 0;
    }

    private static Object ask(Object of, Method method, Object[] args) {
        try {
            Object answer = method.invoke(of, args);
            return answer == null ? "nothing" : answer;
        } catch (InvocationTargetException e) {
            return e.getCause().getClass().getName();
        } catch (IllegalAccessException e) {
            throw new IllegalStateException(e);
        }
    }

    /** Both answer alike; otherwise the run is told up to here. */
    private Object call(String name, Object... args) {
        Object got = ask(town, FACE.get(name), args);
        Object due = ask(model, MODEL.get(name), args);
        told.add(name + Arrays.toString(args) + " = " + got);
        ANSWERED.merge(name, 1, Integer::sum);
        if (got instanceof String s && !s.equals("nothing")) {
            THREW.merge(name + " " + s, 1, Integer::sum);
        }
        if (!got.equals(due)) {
            int from = Math.max(0, told.size() - 12);
            System.out.println("..\n" + String.join("\n", told.subList(from, told.size())));
        }
        Checks.due(name + Arrays.toString(args), number(got), number(due));
        return got;
    }

    private static long number(Object answer) {
        if (answer instanceof Integer n) return n;
        if (answer instanceof Boolean b) return b ? 1 : 0;
        return 1L << 40 | answer.hashCode() & 0xffffffffL;
    }

    private int below(int n) {
        return random.nextInt(n);
    }

    private boolean once(int in) {
        return random.nextInt(in) == 0;
    }

    /** Mostly ordinary, at times an edge, at times beyond it. */
    private int near(int least, int most) {
        if (once(80)) return List.of(Integer.MIN_VALUE, Integer.MAX_VALUE, -1, random.nextInt()).get(below(4));
        switch (below(12)) {
            case 0: return least;
            case 1: return most;
            case 2: return once(4) ? least - 1 : least;
            case 3: return once(4) ? most + 1 : most;
            default: return least + below(most - least + 1);
        }
    }

    private int someFamily() {
        return once(40) ? near(-2, 7) : below(Math.max(1, model.count(0)));
    }

    private int someGrudge() {
        return once(40) ? near(-2, 11) : below(Math.max(1, grudges()));
    }

    private int grudges() {
        int n = 0;
        for (int g = 0; g < 10; g++) {
            try {
                model.grudge(g, 0);
                n++;
            } catch (IndexOutOfBoundsException e) {
                break;
            }
        }
        return n;
    }

    // ---- texts

    private String blanks(boolean need) {
        if (!need && once(2)) return "";
        return " ".repeat(once(12) ? 1 + below(3) : 1);
    }

    private String join(List<String> words) {
        StringBuilder b = new StringBuilder(once(10) ? " " : "");
        for (String w : words) {
            if (b.length() > 0) {
                char last = b.charAt(b.length() - 1);
                char next = w.charAt(0);
                boolean need = Character.isLetter(last) && Character.isLetter(next)
                        || Character.isDigit(last) && Character.isDigit(next);
                b.append(blanks(need));
            }
            b.append(w);
        }
        return b.append(once(10) ? "  " : "").toString();
    }

    private boolean wrong() {
        return once(wild == 0 ? 100 : 1500);
    }

    private String bound(int least, int most) {
        int n = wrong() ? most + 1 : least + below(most - least + 1);
        return once(30) ? String.format("%03d", n) : wrong() ? "0000" : Integer.toString(n);
    }

    private void add(List<String> to, String... words) {
        to.addAll(Arrays.asList(words));
    }

    private String letter() {
        return wrong() ? "i" : String.valueOf((char) ('a' + below(once(2) ? 3 : 8)));
    }

    private void townLine(List<String> to, int families) {
        switch (below(wild == 2 ? 14 : 10)) {
            case 0: case 1: case 2:
                add(to, "family", "pride", bound(0, 9), "needs", bound(0, once(2) ? 20 : 99));
                if (once(2)) add(to, "larder", bound(0, once(2) ? 60 : 999));
                break;
            case 3:
                add(to, "slight", letter(), "bitter", bound(0, 9), "deep", bound(0, 9));
                break;
            case 4: case 5: case 6:
                add(to, "grudge", bound(0, Math.max(0, families - 1)), bound(0, Math.max(0, families - 1)), "over",
                        letter(), "ice", bound(0, once(2) ? 40 : 999));
                if (once(2)) add(to, "age", bound(0, once(2) ? 3 : 99));
                if (once(3)) add(to, "nursed");
                break;
            case 7:
                add(to, "heat", List.of("spring", "summer", "autumn", "winter").get(below(4)), bound(0, 20));
                break;
            case 8:
                add(to, "kiss", bound(0, 100));
                break;
            case 9:
                add(to, "store", bound(0, 999));
                break;
            case 10:
                add(to, "time", bound(0, 999));
                break;
            case 11:
                add(to, "propped");
                break;
            default:
                add(to, "slight", letter(), "bitter", bound(0, 9), "deep", bound(0, 9));
        }
    }

    private String townText(boolean first) {
        List<String> words = new ArrayList<>();
        int families = model.count(0);
        int grudges = grudges();
        int lines = once(30) ? 0 : once(25) ? 13 + below(4) : first ? 5 + below(9) : 1 + below(6);
        for (int i = 0; i < lines; i++) {
            if (i > 0) add(words, ";");
            int begin = words.size();
            for (int tries = 0; tries < 20; tries++) {
                while (words.size() > begin) words.remove(words.size() - 1);
                if (first && i < 5 && families < 5) {
                    add(words, "family", "pride", bound(0, 9), "needs", bound(0, 30), "larder", bound(0, 90));
                } else {
                    townLine(words, families);
                }
                if (right(words, begin, families, grudges)) break;
            }
            if (words.get(begin).equals("grudge")) grudges++;
            if (words.get(begin).equals("family")) families = Math.min(6, families + 1);
        }
        return join(words);
    }

    /** A line too many, or with a grudge of a family to itself, is mostly told anew. */
    private boolean right(List<String> words, int begin, int families, int grudges) {
        if (wrong()) return true;
        if (words.get(begin).equals("family")) return families < 6;
        if (!words.get(begin).equals("grudge")) return true;
        return grudges < 10 && families > 1 && !words.get(begin + 1).equals(words.get(begin + 2));
    }

    private void condition(List<String> to, int deep) {
        int alls = 1 + (once(3) ? below(3) : 0);
        for (int i = 0; i < alls; i++) {
            if (i > 0) add(to, "or");
            int atoms = 1 + (once(3) ? below(3) : 0);
            for (int j = 0; j < atoms; j++) {
                if (j > 0) add(to, "and");
                atom(to, deep);
            }
        }
    }

    private void atom(List<String> to, int deep) {
        int which = below(10);
        if (deep < 8 && (which == 0 || deep > 0 && once(3))) {
            add(to, "not");
            atom(to, deep + 1);
        } else if (deep < 8 && (which == 1 || deep > 0 && once(3))) {
            add(to, "(");
            condition(to, deep + 1);
            add(to, ")");
        } else if (which < 5) {
            add(to, List.of("nursed", "mutual", "propped").get(below(3)));
        } else {
            sum(to);
            add(to, once(2) ? "<" : ">");
            sum(to);
        }
    }

    private void sum(List<String> to) {
        int parts = 1 + (once(3) ? below(3) : 0);
        for (int i = 0; i < parts; i++) {
            if (i > 0) add(to, "+");
            if (once(2)) {
                add(to, bound(0, once(2) ? 9 : 99));
            } else {
                add(to, List.of("grudge", "age", "ice", "pride", "bitter", "deep", "heat", "season").get(below(8)));
            }
        }
    }

    private String lawText() {
        List<String> words = new ArrayList<>();
        int lines = once(15) ? 0 : once(15) ? 11 + below(3) : 1 + below(6);
        for (int i = 0; i < lines; i++) {
            if (i > 0) add(words, ";");
            add(words, List.of("freeze", "melt", "harden").get(below(3)), bound(0, once(3) ? 100 : 15));
            if (!once(4) && lines < 11) {
                add(words, "if");
                condition(words, once(6) ? 3 : 0);
            }
        }
        return join(words);
    }

    private String spoil(String text) {
        if (!once(wild == 0 ? 3 : 20)) return text;
        StringBuilder b = new StringBuilder(text);
        int at = below(b.length() + 1);
        String signs = "aeghnz0159 ;()<>+-A\u00ff\u0000";
        switch (below(4)) {
            case 0:
                b.insert(at, signs.charAt(below(signs.length())));
                break;
            case 1:
                if (at < b.length()) b.deleteCharAt(at);
                break;
            case 2:
                if (at < b.length()) b.setCharAt(at, signs.charAt(below(signs.length())));
                break;
            default:
                b.setLength(at);
        }
        return b.toString();
    }

    private void put(String text) {
        byte[] bytes = new byte[Math.min(400, text.length())];
        for (int i = 0; i < bytes.length; i++) bytes[i] = (byte) text.charAt(i);
        put(bytes);
    }

    private void put(byte[] bytes) {
        for (int at = 0; at < bytes.length; at += 20) {
            Object[] n = {0, 0, 0, 0, 0};
            for (int i = 0; i < 20; i++) {
                n[i / 4] = (Integer) n[i / 4] << 8 | (at + i < bytes.length ? bytes[at + i] & 255 : below(256));
            }
            call("feed", n);
        }
        call("end", bytes.length);
    }

    private void town(boolean first) {
        put(first && wild > 0 ? townText(true) : spoil(townText(first)));
        call("town");
        call("fault");
    }

    private void law() {
        put(spoil(lawText()));
        call("law");
        call("fault");
    }

    private void cuts() {
        byte[] rows = new byte[once(8) ? below(45) : 2 * below(4)];
        int slight = below(8);
        for (int i = 0; i + 1 < rows.length; i += 2) {
            rows[i] = (byte) (once(60) ? 2 : below(2));
            int due = slightOf(slight, rows[i]);
            rows[i + 1] = (byte) (once(4) ? below(once(20) ? 256 : 10) : due);
        }
        put(rows);
        if (once(2)) {
            call("ask");
        } else {
            call("cuts", once(2));
        }
    }

    private int slightOf(int slight, int what) {
        return what == 0 || what == 1 ? model.slight(slight, what) : 0;
    }

    // ---- acts and questions

    private void act() {
        int g = someGrudge();
        switch (below(12)) {
            case 0:
                call("seasons", once(6) ? near(1, 60) : 1 + below(4));
                break;
            case 1: case 2: case 3:
                call("insult", someFamily(), someFamily(), once(20) ? near(0, 7) : below(4));
                break;
            case 4:
                if (once(2)) call("forgive", g);
                break;
            case 5:
                call("nurse", g, once(2));
                break;
            case 6:
                call("saw", g, someFamily(), once(2) ? near(1, 999) : 1 + below(20));
                break;
            case 7:
                call("store", g, once(2) ? near(1, 999) : 1 + below(20));
                break;
            case 8:
                call("deliver", someFamily(), once(2) ? near(1, 999) : 1 + below(20));
                break;
            case 9:
                call("prop", once(2));
                break;
            case 10:
                for (int n = once(4) ? 1 + below(14) : 1; n > 0; n--) call("undo");
                break;
            default:
                if (once(3)) {
                    call("image");
                } else if (once(3)) {
                    call("back");
                } else {
                    call("seed", random.nextInt());
                }
        }
    }

    private void question() {
        List<String> plain = List.of("fault", "cold", "stock", "scarce", "hot", "keeps", "tight", "friends", "rota",
                "feud", "between", "oldest", "blue", "nursed", "mutual", "proud", "offs", "twins");
        int f = someFamily();
        int g = someGrudge();
        switch (below(24)) {
            case 0: call("family", f, near(0, 6)); break;
            case 1: case 2: call("grudge", g, near(0, 10)); break;
            case 3: call("slight", near(0, 7), near(0, 2)); break;
            case 4: call("heat", near(0, 3)); break;
            case 5: call("misses", once(9) ? random.nextInt() : below(64)); break;
            case 6: call("thaw", once(2) ? near(0, 999) : below(Math.min(999, model.count(8)) + 1)); break;
            case 7: call("camps", once(2)); break;
            case 8: call("steps", f, someFamily()); break;
            case 9: call("ring", f); break;
            case 10: call("kisses", once(2) ? -1 : f); break;
            case 11: call("shares", f, once(2) ? near(0, 999) : below(80)); break;
            case 12: call("swap", f, someFamily()); break;
            case 13: call("rests", g); break;
            case 14: call("odds", near(0, 6), near(0, 6)); break;
            case 15: call("ahead", g, near(0, 60)); break;
            case 16: call("larder", f, near(0, 60)); break;
            case 17: call("trial", near(0, 60), once(2)); break;
            case 18: call("span", near(0, 60), once(2)); break;
            case 19: call("led", g, once(2)); break;
            case 20: call("log", once(9) ? near(-1, 60) : below(8), near(0, 3)); break;
            case 21: call("count", near(0, 11)); break;
            default: call(plain.get(below(plain.size())));
        }
    }

    private void run() {
        town(true);
        if (once(2)) law();
        while (told.size() < CALLS - 30) {
            int which = below(manyTexts ? 30 : 60);
            if (which == 0) {
                town(false);
            } else if (which == 1) {
                law();
            } else if (which < 4) {
                cuts();
            } else if (which < 20) {
                act();
            } else {
                question();
            }
        }
        while (told.size() < CALLS) question();
    }

    public static void main(String[] args) {
        for (Method m : GrudgeIce.class.getDeclaredMethods()) {
            if (java.lang.reflect.Modifier.isPublic(m.getModifiers())) FACE.put(m.getName(), m);
        }
        for (Method m : Model.class.getMethods()) MODEL.put(m.getName(), m);
        int runs = args.length > 0 ? Integer.parseInt(args[0]) : RUNS;
        long from = args.length > 1 ? Long.parseLong(args[1]) : 0;
        for (int i = 0; i < runs; i++) new RunsTest(from + i).run();
        if (args.length > 0) {
            ANSWERED.entrySet().stream().sorted(Comparator.comparing(Map.Entry::getValue)).forEach(System.out::println);
            THREW.forEach((k, v) -> System.out.println(k + ": " + v));
        }
        for (String name : FACE.keySet()) Checks.due("asked at all: " + name, ANSWERED.containsKey(name), true);
        Checks.end("RunsTest");
    }
}
