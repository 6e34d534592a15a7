import java.lang.reflect.InvocationTargetException;
import java.lang.reflect.Method;
import java.nio.file.Files;
import java.nio.file.Path;
import java.util.regex.Matcher;
import java.util.regex.Pattern;

/** Each call that README.md shows answers what stands behind it. */
public final class ReadmeTest extends Checks {
    private static final Pattern MADE = Pattern.compile("GrudgeIce x = new GrudgeIce\\(\\);");
    private static final Pattern TOLD = Pattern.compile("tell\\(x, \"(.*)\"\\);.*");
    private static final Pattern CALL = Pattern.compile("x\\.(\\w+)\\(([^)]*)\\);\\s*(?:// (.*))?");

    private ReadmeTest() {
    }

    public static void main(String[] args) throws Exception {
        GrudgeIce x = null;
        int calls = 0;
        for (String line : Files.readAllLines(Path.of("README.md"))) {
            Matcher told = TOLD.matcher(line);
            Matcher call = CALL.matcher(line);
            if (MADE.matcher(line).matches()) {
                x = new GrudgeIce();
            } else if (x != null && told.matches()) {
                tape(x, told.group(1).translateEscapes());
            } else if (x != null && call.matches()) {
                same(line, answer(x, call.group(1), call.group(2)), call.group(3) == null ? "null" : call.group(3));
                calls++;
            }
        }
        due("README.md shows calls", calls > 40, true);
        end("ReadmeTest");
    }

    private static String answer(GrudgeIce x, String name, String told) throws IllegalAccessException {
        Object[] given = given(told);
        for (Method method : GrudgeIce.class.getMethods()) {
            if (method.getName().equals(name) && method.getParameterCount() == given.length) {
                try {
                    return String.valueOf(method.invoke(x, given));
                } catch (InvocationTargetException e) {
                    return "throws " + e.getCause().getClass().getSimpleName();
                }
            }
        }
        return "no such call";
    }

    private static Object[] given(String told) {
        String[] words = told.isBlank() ? new String[0] : told.split(",\\s*");
        Object[] given = new Object[words.length];
        for (int i = 0; i < words.length; i++) {
            boolean truth = words[i].equals("true") || words[i].equals("false");
            given[i] = truth ? (Object) Boolean.valueOf(words[i]) : (Object) Integer.decode(words[i]);
        }
        return given;
    }
}
