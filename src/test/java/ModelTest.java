import java.lang.reflect.Method;
import java.lang.reflect.Modifier;
import java.util.ArrayList;
import java.util.Arrays;
import java.util.Comparator;
import java.util.List;
import java.util.Random;

/** Long runs of calls, the same each time, answered by the class and by the Model. */
public final class ModelTest {
    /** An object is used for at most so many calls. */
    private static final int MOST_CALLS = 512;

    private final Random random;
    private final int mostLefts;
    private final int mostRights;
    private final int density;
    private final Phasehall hall = new Phasehall();
    private final Model model = new Model();

    private ModelTest(int seed, int mostLefts, int mostRights) {
        this.random = new Random(seed);
        this.mostLefts = mostLefts;
        this.mostRights = mostRights;
        this.density = 1 + random.nextInt(9);
    }

    public static void main(String[] args) {
        List<Method> methods = new ArrayList<>();
        for (Method method : Phasehall.class.getDeclaredMethods()) {
            if (Modifier.isPublic(method.getModifiers())) {
                methods.add(method);
            }
        }
        methods.sort(Comparator.comparing(Method::getName));
        for (int seed = 0; seed < 400; seed++) {
            new ModelTest(seed, seed % 6, seed / 6 % 6).run(methods, seed);
        }
        for (int seed = 1000; seed < 1200; seed++) {
            new ModelTest(seed, 6 + seed % 7, 6 + seed / 7 % 7).run(methods, seed);
        }
        Check.end("ModelTest");
    }

    private void run(List<Method> methods, int seed) {
        StringBuilder calls = new StringBuilder();
        for (int call = 0; call < MOST_CALLS; call++) {
            Method method = nextMethod(methods);
            if (isPassedOver(method.getName())) {
                continue;
            }
            Object[] arguments = arguments(method);
            String due = Asked.answer(model, method.getName(), arguments);
            String got = Asked.answer(hall, method.getName(), arguments);
            calls.append(method.getName()).append(Arrays.toString(arguments)).append(' ');
            if (!got.equals(due)) {
                Check.same("run " + seed + ": " + calls, got, due);
                return;
            }
        }
    }

    /** Growth stops at the run's size, and of large objects the Model's slowest calls are asked seldom. */
    private boolean isPassedOver(String name) {
        int nodes = model.lefts() + model.rights();
        switch (name) {
            case "addLeft":
                return model.lefts() >= mostLefts && mostLefts < 12;
            case "addRight":
                return model.rights() >= mostRights && mostRights < 12;
            case "leastCovers":
                return nodes > 16 || nodes > 10 && random.nextInt(10) > 0;
            case "largestMatchings":
            case "greatestExcess":
                return nodes > 10 && random.nextInt(10) > 0;
            default:
                return false;
        }
    }

    /** Nodes come early, and edges come and go more often than one question is asked. */
    private Method nextMethod(List<Method> methods) {
        int kind = random.nextInt(20);
        boolean grow = model.lefts() < mostLefts || model.rights() < mostRights;
        if (grow && kind < 6) {
            return named(methods, kind < 3 ? "addLeft" : "addRight");
        }
        if (kind < 9) {
            return named(methods, random.nextInt(10) < density ? "connect" : "disconnect");
        }
        return methods.get(random.nextInt(methods.size()));
    }

    private static Method named(List<Method> methods, String name) {
        for (Method method : methods) {
            if (method.getName().equals(name)) {
                return method;
            }
        }
        throw new IllegalArgumentException(name);
    }

    private Object[] arguments(Method method) {
        Object[] arguments = new Object[method.getParameterCount()];
        for (int at = 0; at < arguments.length; at++) {
            int most = at == 1 && !method.getName().equals("leads") ? model.rights() : model.lefts();
            int odd = random.nextInt(60);
            arguments[at] = odd == 0 ? most + random.nextInt(2) : odd == 1 ? -1
                : odd == 2 ? random.nextInt() : random.nextInt(Math.max(1, most));
        }
        return arguments;
    }
}
