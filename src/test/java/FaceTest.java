import java.lang.reflect.Constructor;
import java.lang.reflect.Field;
import java.lang.reflect.Method;
import java.lang.reflect.Modifier;
import java.util.Arrays;
import java.util.Set;
import java.util.TreeSet;

/** The class shows the document's face and nothing else. */
public final class FaceTest {
    private static final String BOUNDS = " IndexOutOfBoundsException";
    private static final String STATE = " IllegalStateException";
    private static final String ELEMENT = " NoSuchElementException";

    public static void main(String[] args) {
        Set<String> due = new TreeSet<>(Arrays.asList(
            "int addLeft 0" + STATE, "int addRight 0" + STATE, "int lefts 0", "int rights 0", "int edges 0",
            "boolean connect 2" + BOUNDS + STATE, "boolean disconnect 2" + BOUNDS + ELEMENT,
            "boolean hasEdge 2" + BOUNDS, "int size 0", "int partnerOfLeft 1" + BOUNDS + ELEMENT,
            "int partnerOfRight 1" + BOUNDS + ELEMENT, "int phases 0", "int depthOf 1" + BOUNDS,
            "int pathsOf 1" + BOUNDS, "int rebuild 0", "int partOfLeft 1" + BOUNDS, "int partOfRight 1" + BOUNDS,
            "int fineParts 0", "int finePart 1" + BOUNDS + ELEMENT, "boolean leads 2" + BOUNDS + ELEMENT,
            "boolean isInSome 2" + BOUNDS + ELEMENT, "boolean isInAll 2" + BOUNDS + ELEMENT,
            "long largestMatchings 0", "boolean coversLeft 1" + BOUNDS, "boolean coversRight 1" + BOUNDS,
            "int leastCovers 0", "int greatestExcess 0"));
        Set<String> got = new TreeSet<>();
        Set<String> publicNames = new TreeSet<>();
        for (Method method : Phasehall.class.getDeclaredMethods()) {
            if (!Modifier.isPrivate(method.getModifiers()) && !method.isSynthetic()) {
                got.add(describe(method));
                publicNames.add(method.getName());
                Check.same(method + " is public", Modifier.isPublic(method.getModifiers()), true);
            }
        }
        Check.same("methods", got, due);
        for (Method method : Phasehall.class.getDeclaredMethods()) {
            if (Modifier.isPrivate(method.getModifiers())) {
                Check.same(method + " bears a public name", publicNames.contains(method.getName()), false);
            }
        }
        for (Field field : Phasehall.class.getDeclaredFields()) {
            Check.same(field + " is private", Modifier.isPrivate(field.getModifiers()), true);
        }
        Constructor<?>[] constructors = Phasehall.class.getDeclaredConstructors();
        Check.same("constructors", constructors.length, 1);
        Check.same("constructor", constructors[0].toString(), "public Phasehall()");
        Check.same("class", Modifier.toString(Phasehall.class.getModifiers()), "public final");
        Check.end("FaceTest");
    }

    private static String describe(Method method) {
        StringBuilder text = new StringBuilder();
        text.append(method.getReturnType()).append(' ').append(method.getName());
        text.append(' ').append(method.getParameterCount());
        for (Class<?> parameter : method.getParameterTypes()) {
            Check.same(method + " takes", parameter, int.class);
        }
        for (Class<?> thrown : method.getExceptionTypes()) {
            text.append(' ').append(thrown.getSimpleName());
        }
        return text.toString();
    }
}
