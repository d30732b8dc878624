import java.lang.reflect.Method;
import java.lang.reflect.Modifier;
import java.util.ArrayList;
import java.util.Arrays;
import java.util.Comparator;
import java.util.List;

/** Long runs of calls drawn by a fixed rule: the class answers as the plain model does. */
public final class ModelTest {
    private static final int RUNS = 100;
    private static final int CALLS_OF_A_RUN = 250;
    private static final int[] ODD_NUMBERS = {-1, 4, 8, 9, 10, 255, 256, -2, Integer.MIN_VALUE, Integer.MAX_VALUE};

    private static long seed = 20261118L;

    public static void main(String[] arguments) {
        Method[] methods = faceMethods();
        for (int run = 0; run < RUNS && Calls.wrong() == 0; run++) {
            compare(run, methods);
        }
        Calls.end();
    }

    /** Each call is followed by digest(), which tells of the whole state. */
    private static void compare(int run, Method[] methods) {
        Relationkeys object = new Relationkeys();
        Model model = new Model();
        for (int call = 0; call < CALLS_OF_A_RUN && Calls.wrong() == 0; call++) {
            Method method = methods[drawn(methods.length)];
            List<Object> drawn = drawnArguments(method);
            String name = method.getName();
            String what = "run " + run + ", call " + call + ": " + name + drawn;
            Calls.due(what, Calls.answer(object, name, drawn), Calls.answer(model, name, drawn));
            String digest = String.valueOf(model.digest());
            Calls.due("digest() after " + what, String.valueOf(object.digest()), digest);
        }
    }

    private static Method[] faceMethods() {
        Method[] methods = Arrays.stream(Relationkeys.class.getDeclaredMethods())
            .filter(method -> Modifier.isPublic(method.getModifiers()))
            .toArray(Method[]::new);
        Arrays.sort(methods, Comparator.comparing(Method::getName));
        return methods;
    }

    private static List<Object> drawnArguments(Method method) {
        List<Object> drawn = new ArrayList<>();
        Class<?>[] types = method.getParameterTypes();
        for (int k = 0; k < types.length; k++) {
            if (types[k] == boolean.class) {
                drawn.add(drawn(2) == 1);
            } else {
                drawn.add(drawn(60) == 0 ? ODD_NUMBERS[drawn(ODD_NUMBERS.length)] : drawn(end(method.getName(), k)));
            }
        }
        return drawn;
    }

    /** One above the highest number that the argument may have. */
    private static int end(String name, int k) {
        if (k == 0) {
            return name.equals("house") ? 5 : 4;
        }
        switch (name) {
            case "aim":
                return k == 1 ? 8 : 256;
            case "firsts":
            case "seconds":
            case "hasImage":
                return 256;
            case "power":
            case "is":
                return 10;
            case "put":
            case "take":
            case "send":
            case "has":
            case "image":
            case "source":
            case "apply":
            case "reach":
            case "steps":
            case "classOf":
                return 8;
            default:
                return 4;
        }
    }

    private static int drawn(int end) {
        seed = seed * 6364136223846793005L + 1442695040888963407L;
        return (int) ((seed >>> 33) % end);
    }
}
