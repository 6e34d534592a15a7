import java.io.IOException;
import java.nio.charset.StandardCharsets;
import java.nio.file.Files;
import java.nio.file.Path;

/** Compares answers with those that are due, and counts the wrong ones; tests may extend it for short names. */
class Checks {
    /** A call of the face. */
    interface Call {
        Object answer();
    }

    private static final int MOST_SHOWN = 40;
    private static final String DOCUMENT = read(Path.of("../shared/DOC.md"));

    private static int wrong = 0;
    private static int told = 0;
    private static String sentence = "";

    Checks() {
    }

    /** The next checks are of these words of the document, which must be in it. */
    static void sentence(String words) {
        sentence = words;
        told++;
        if (!DOCUMENT.isEmpty() && !DOCUMENT.contains(plain(words))) {
            fail("the document does not say this");
        }
    }

    static void due(String what, long got, long want) {
        told++;
        if (got != want) {
            fail(what + ": answered " + got + ", due is " + want);
        }
    }

    static void due(String what, boolean got, boolean want) {
        due(what, got ? 1 : 0, want ? 1 : 0);
    }

    static void same(String what, String got, String want) {
        told++;
        if (!got.equals(want)) {
            fail(what + ": is\n    " + got + "\n  due is\n    " + want);
        }
    }

    /** The call throws just this exception. */
    static void throwsThat(String what, Class<? extends RuntimeException> due, Call call) {
        told++;
        String got;
        try {
            got = "answered " + call.answer();
        } catch (RuntimeException e) {
            if (e.getClass() == due) {
                return;
            }
            got = "threw " + e.getClass().getName();
        }
        fail(what + ": " + got + ", due is " + due.getName());
    }

    static void noSuch(String what, Call call) {
        throwsThat(what, IndexOutOfBoundsException.class, call);
    }

    static void noNumber(String what, Call call) {
        throwsThat(what, IllegalArgumentException.class, call);
    }

    static void cannot(String what, Call call) {
        throwsThat(what, IllegalStateException.class, call);
    }

    static void noWhat(String what, Call call) {
        throwsThat(what, java.util.NoSuchElementException.class, call);
    }

    /** These bytes, and no others, are the TAPE. */
    static void tape(GrudgeIce town, byte[] bytes) {
        town.end(0);
        for (int at = 0; at < bytes.length; at += 20) {
            int[] numbers = new int[5];
            for (int i = 0; i < 20; i++) {
                int next = at + i < bytes.length ? bytes[at + i] & 255 : 0;
                numbers[i / 4] = numbers[i / 4] << 8 | next;
            }
            town.feed(numbers[0], numbers[1], numbers[2], numbers[3], numbers[4]);
        }
        town.end(bytes.length);
    }

    static void tape(GrudgeIce town, String text) {
        tape(town, text.getBytes(StandardCharsets.ISO_8859_1));
    }

    /** Reads a text of THE TOWN that must be right. */
    static int town(GrudgeIce town, String text) {
        tape(town, text);
        return town.town();
    }

    /** Reads THE LAW that must be right. */
    static int law(GrudgeIce town, String text) {
        tape(town, text);
        return town.law();
    }

    static GrudgeIce of(String... texts) {
        GrudgeIce town = new GrudgeIce();
        for (String text : texts) {
            town(town, text);
        }
        return town;
    }

    static GrudgeIce rightTown(String text) {
        GrudgeIce town = new GrudgeIce();
        rightTown(town, text);
        return town;
    }

    static void rightTown(GrudgeIce town, String text) {
        tape(town, text);
        due("right: " + text, answers(town::town), true);
        due("no fault: " + text, town.fault(), -1);
    }

    static GrudgeIce rightLaw(String text) {
        GrudgeIce town = new GrudgeIce();
        tape(town, text);
        due("right: " + text, answers(town::law), true);
        due("no fault: " + text, town.fault(), -1);
        return town;
    }

    static void wrongTown(String marked) {
        wrongTown(new GrudgeIce(), marked);
    }

    /** The text of THE TOWN is wrong; a ^ stands ahead of its first wrong byte, and is no part of it. */
    static void wrongTown(GrudgeIce town, String marked) {
        tape(town, marked.replace("^", ""));
        noNumber("wrong: " + marked, town::town);
        due("fault: " + marked, town.fault(), marked.indexOf('^'));
        due("the tape is used up: " + marked, town.end(1), false);
    }

    /** THE LAW is wrong; a ^ stands ahead of its first wrong byte, and is no part of it. */
    static void wrongLaw(String marked) {
        GrudgeIce town = new GrudgeIce();
        tape(town, marked.replace("^", ""));
        noNumber("wrong: " + marked, town::law);
        due("fault: " + marked, town.fault(), marked.indexOf('^'));
        due("no law: " + marked, town.count(3), -1);
        due("the tape is used up: " + marked, town.end(1), false);
    }

    /** The same LINE so many times. */
    static String times(int n, String line) {
        return n <= 0 ? "" : (line + ";").repeat(n - 1) + line;
    }

    /** Prints how it went; ends with 1 if an answer was wrong. */
    static void end(String name) {
        System.out.println(name + ": " + told + " checks, " + wrong + " wrong");
        if (wrong != 0 || told == 0) {
            System.exit(1);
        }
    }

    private static boolean answers(Call call) {
        try {
            call.answer();
            return true;
        } catch (RuntimeException e) {
            return false;
        }
    }

    private static void fail(String how) {
        wrong++;
        if (wrong > MOST_SHOWN) return;
        System.out.println((sentence.isEmpty() ? "" : "\"" + sentence + "\"\n  ") + how);
    }

    private static String plain(String text) {
        return text.replaceAll("\\s+", " ").trim();
    }

    /** Nothing, if the document does not stand beside the project: then quotes are not looked up. */
    private static String read(Path file) {
        try {
            return plain(Files.readString(file, StandardCharsets.ISO_8859_1));
        } catch (IOException e) {
            return "";
        }
    }
}
