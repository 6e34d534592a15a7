import java.nio.charset.StandardCharsets;

/** Compares answers with those that are due, and counts the wrong ones. */
final class Checks {
    /** A call of the face. */
    interface Call {
        Object answer();
    }

    private static int wrong = 0;
    private static int told = 0;

    private Checks() {
    }

    static void due(String what, long got, long want) {
        told++;
        if (got != want) {
            wrong++;
            System.out.println(what + ": answered " + got + ", due is " + want);
        }
    }

    static void due(String what, boolean got, boolean want) {
        due(what, got ? 1 : 0, want ? 1 : 0);
    }

    /** The call throws just this exception. */
    static void throwsThat(String what, Class<? extends RuntimeException> due, Call call) {
        told++;
        String got;
        try {
            got = "answered " + call.answer();
        } catch (RuntimeException e) {
            if (e.getClass() == due) {
                return;
            }
            got = "threw " + e.getClass().getName();
        }
        wrong++;
        System.out.println(what + ": " + got + ", due is " + due.getName());
    }

    static void noSuch(String what, Call call) {
        throwsThat(what, IndexOutOfBoundsException.class, call);
    }

    static void noNumber(String what, Call call) {
        throwsThat(what, IllegalArgumentException.class, call);
    }

    static void cannot(String what, Call call) {
        throwsThat(what, IllegalStateException.class, call);
    }

    static void noWhat(String what, Call call) {
        throwsThat(what, java.util.NoSuchElementException.class, call);
    }

    /** These bytes, and no others, are the TAPE. */
    static void tape(GrudgeIce town, byte[] bytes) {
        town.end(0);
        for (int at = 0; at < bytes.length; at += 20) {
            int[] numbers = new int[5];
            for (int i = 0; i < 20; i++) {
                int next = at + i < bytes.length ? bytes[at + i] & 255 : 0;
                numbers[i / 4] = numbers[i / 4] << 8 | next;
            }
            town.feed(numbers[0], numbers[1], numbers[2], numbers[3], numbers[4]);
        }
        town.end(bytes.length);
    }

    static void tape(GrudgeIce town, String text) {
        tape(town, text.getBytes(StandardCharsets.ISO_8859_1));
    }

    /** Reads a text of THE TOWN that must be right. */
    static int town(GrudgeIce town, String text) {
        tape(town, text);
        return town.town();
    }

    /** Reads THE LAW that must be right. */
    static int law(GrudgeIce town, String text) {
        tape(town, text);
        return town.law();
    }

    static GrudgeIce of(String... texts) {
        GrudgeIce town = new GrudgeIce();
        for (String text : texts) {
            town(town, text);
        }
        return town;
    }

    /** Prints how it went; ends with 1 if an answer was wrong. */
    static void end(String name) {
        System.out.println(name + ": " + told + " checks, " + wrong + " wrong");
        if (wrong != 0 || told == 0) {
            System.exit(1);
        }
    }
}
