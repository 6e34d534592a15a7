import java.lang.reflect.Constructor;
import java.lang.reflect.Field;
import java.lang.reflect.Method;
import java.lang.reflect.Modifier;
import java.util.Arrays;
import java.util.Set;
import java.util.TreeSet;
import java.util.stream.Collectors;

/** The public face is the document's, to the letter. */
public final class FaceTest {
    private static final String[] METHODS = {
        "int feed(int, int, int, int, int)",
        "boolean end(int)",
        "int town() throws IllegalArgumentException, UnsupportedOperationException",
        "int law() throws IllegalArgumentException",
        "int fault()",
        "int family(int, int) throws IndexOutOfBoundsException, NoSuchElementException",
        "int grudge(int, int) throws IndexOutOfBoundsException, NoSuchElementException",
        "int slight(int, int) throws IndexOutOfBoundsException, NoSuchElementException",
        "int heat(int) throws IndexOutOfBoundsException",
        "int seasons(int) throws IllegalArgumentException",
        "int insult(int, int, int) throws IndexOutOfBoundsException, IllegalArgumentException, IllegalStateException",
        "int forgive(int) throws IndexOutOfBoundsException, IllegalStateException",
        "boolean nurse(int, boolean) throws IndexOutOfBoundsException, IllegalStateException",
        "int saw(int, int, int) throws IndexOutOfBoundsException, IllegalArgumentException, IllegalStateException",
        "int store(int, int) throws IndexOutOfBoundsException, IllegalArgumentException, IllegalStateException",
        "int deliver(int, int) throws IndexOutOfBoundsException, IllegalArgumentException, IllegalStateException",
        "boolean prop(boolean)",
        "int cold()", "int stock()", "int scarce()", "int hot()", "int keeps()", "int tight()", "int misses(int)",
        "int thaw(int) throws IllegalArgumentException",
        "int friends()",
        "int camps(boolean)",
        "int cuts(boolean) throws IllegalArgumentException",
        "int ask() throws IllegalArgumentException",
        "int rota()",
        "int steps(int, int) throws IndexOutOfBoundsException",
        "boolean ring(int) throws IndexOutOfBoundsException",
        "int feud()", "int between()",
        "int kisses(int) throws IndexOutOfBoundsException",
        "int shares(int, int) throws IndexOutOfBoundsException, IllegalArgumentException",
        "boolean swap(int, int) throws IndexOutOfBoundsException, IllegalArgumentException",
        "int rests(int) throws IndexOutOfBoundsException",
        "int odds(int, int) throws IllegalArgumentException",
        "int oldest()", "int blue()", "int nursed()", "int mutual()", "int proud()", "int offs()", "int twins()",
        "int ahead(int, int) throws IndexOutOfBoundsException, IllegalArgumentException",
        "int larder(int, int) throws IndexOutOfBoundsException, IllegalArgumentException",
        "int trial(int, boolean) throws IllegalArgumentException",
        "int span(int, boolean) throws IllegalArgumentException",
        "int led(int, boolean) throws IndexOutOfBoundsException",
        "int log(int, int) throws NoSuchElementException",
        "int seed(int)", "boolean undo()", "void image()", "boolean back()", "int count(int)",
    };

    private FaceTest() {
    }

    private static String names(Class<?>[] types) {
        return Arrays.stream(types).map(Class::getSimpleName).collect(Collectors.joining(", "));
    }

    private static String told(Method m) {
        String thrown = names(m.getExceptionTypes());
        String head = m.getReturnType().getSimpleName() + " " + m.getName() + "(" + names(m.getParameterTypes()) + ")";
        return thrown.isEmpty() ? head : head + " throws " + thrown;
    }

    private static boolean open(int modifiers) {
        return !Modifier.isPrivate(modifiers);
    }

    public static void main(String[] args) throws Exception {
        Set<String> due = new TreeSet<>(Arrays.asList(METHODS));
        Set<String> names = new TreeSet<>();
        for (Method m : GrudgeIce.class.getDeclaredMethods()) {
            if (!m.isSynthetic() && open(m.getModifiers())) {
                names.add(m.getName());
                Checks.due("is due: " + told(m), due.remove(told(m)), true);
                Checks.due("is public and no more: " + m, m.getModifiers() == Modifier.PUBLIC, true);
            }
        }
        for (String missing : due) Checks.due("is there: " + missing, false, true);
        Checks.due("methods", names.size(), METHODS.length);

        for (Field f : GrudgeIce.class.getDeclaredFields()) {
            boolean none = f.getName().equals("NONE");
            Checks.due("is hidden: " + f, open(f.getModifiers()), none);
            if (none) {
                int is = Modifier.PUBLIC | Modifier.STATIC | Modifier.FINAL;
                Checks.due("NONE is a constant", f.getModifiers() == is && f.getType() == int.class, true);
            }
        }
        Checks.due("NONE", GrudgeIce.NONE, -1);

        Constructor<?>[] made = GrudgeIce.class.getDeclaredConstructors();
        Checks.due("constructors", made.length, 1);
        Checks.due("the constructor", made[0].getModifiers() == Modifier.PUBLIC && made[0].getParameterCount() == 0, true);
        Checks.due("final", GrudgeIce.class.getModifiers() == (Modifier.PUBLIC | Modifier.FINAL), true);

        for (Class<?> inside : GrudgeIce.class.getDeclaredClasses()) {
            Checks.due("static: " + inside, Modifier.isStatic(inside.getModifiers()), true);
            for (Method m : inside.getDeclaredMethods()) {
                Checks.due("bears no name of the face: " + m, names.contains(m.getName()), false);
            }
        }
        Checks.end("FaceTest");
    }
}
