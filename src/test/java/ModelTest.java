import java.lang.reflect.Method;
import java.lang.reflect.Modifier;
import java.util.ArrayList;
import java.util.Arrays;
import java.util.Comparator;
import java.util.List;
import java.util.Set;

/** Calls drawn by a fixed rule, and all calls of a kind in drawn states: the class answers as the plain model does. */
public final class ModelTest {
    private static final int RUNS = 100;
    private static final int CALLS_OF_A_RUN = 200;
    private static final int STATES = 24;
    private static final int[] ODD_NUMBERS = {-1, 4, 8, 9, 10, 255, 256, -2, Integer.MIN_VALUE, Integer.MAX_VALUE};

    /** A thousand sets and more to try: the drawn runs are enough for these. */
    private static final Set<String> TOO_MANY_ARGUMENTS = Set.of("aim", "firsts", "seconds");

    private static long seed = 20261118L;

    public static void main(String[] arguments) {
        Method[] methods = faceMethods();
        for (int run = 0; run < RUNS && Calls.wrong() == 0; run++) {
            compareRun(run, methods);
        }
        for (int state = 0; state < STATES && Calls.wrong() == 0; state++) {
            List<String> shape = drawnShapes();
            for (Method method : methods) {
                compareAllCalls(shape, method);
            }
        }
        Calls.end();
    }

    /** Each call is followed by digest(), which tells of the whole state. */
    private static void compareRun(int run, Method[] methods) {
        List<String> shape = run % 2 == 0 ? List.of() : drawnShapes();
        Relationkeys object = new Relationkeys();
        Model model = new Model();
        makeShape(object, model, shape);
        for (int call = 0; call < CALLS_OF_A_RUN && Calls.wrong() == 0; call++) {
            Method method = methods[drawn(methods.length)];
            String what = "run " + run + " from " + shape + ", call " + call + ": ";
            compareCall(what, object, model, method.getName(), drawnArguments(method));
        }
    }

    private static void compareCall(String where, Object object, Model model, String name, List<Object> arguments) {
        String what = where + name + arguments;
        Calls.due(what, Calls.answer(object, name, arguments), Calls.answer(model, name, arguments));
        Calls.due("digest() after " + what, Calls.answer(object, "digest()"), String.valueOf(model.digest()));
    }

    /** Each call is made on an object of its own that has the shape. */
    private static void compareAllCalls(List<String> shape, Method method) {
        if (TOO_MANY_ARGUMENTS.contains(method.getName())) {
            return;
        }
        for (List<Object> arguments : allArguments(method)) {
            Relationkeys object = new Relationkeys();
            Model model = new Model();
            makeShape(object, model, shape);
            compareCall(shape + ", then ", object, model, method.getName(), arguments);
        }
    }

    private static List<List<Object>> allArguments(Method method) {
        List<List<Object>> all = List.of(List.of());
        Class<?>[] types = method.getParameterTypes();
        for (int k = 0; k < types.length; k++) {
            List<List<Object>> longer = new ArrayList<>();
            int end = types[k] == boolean.class ? 2 : end(method.getName(), k);
            for (List<Object> start : all) {
                for (int value = 0; value < end; value++) {
                    List<Object> arguments = new ArrayList<>(start);
                    arguments.add(types[k] == boolean.class ? (Object) (value == 1) : (Object) value);
                    longer.add(arguments);
                }
            }
            all = longer;
        }
        return all;
    }

    private static Method[] faceMethods() {
        Method[] methods = Arrays.stream(Relationkeys.class.getDeclaredMethods())
            .filter(method -> Modifier.isPublic(method.getModifiers()))
            .toArray(Method[]::new);
        Arrays.sort(methods, Comparator.comparing(Method::getName));
        return methods;
    }

    // ---- what relations are made before a comparison begins

    private static void makeShape(Relationkeys object, Model model, List<String> shape) {
        for (String call : shape) {
            Calls.answer(object, call);
            Calls.answer(model, call);
        }
    }

    private static List<String> drawnShapes() {
        List<String> calls = new ArrayList<>();
        for (int relation = 0; relation < 4; relation++) {
            addShape(calls, relation, drawn(8));
        }
        return calls;
    }

    private static void addShape(List<String> calls, int relation, int kind) {
        switch (kind) {
            case 0:
                calls.add("same(" + relation + ")");
                addImages(calls, relation, 1);
                break;
            case 1:
                addPermutation(calls, relation);
                break;
            case 2:
                addPairs(calls, relation, drawn(8));
                calls.add("close(" + relation + ", 3)");
                break;
            case 3:
                addPairs(calls, relation, drawn(8));
                calls.add("close(" + relation + ", " + drawn(3) + ")");
                break;
            case 4:
                addImages(calls, relation, 8);
                break;
            case 5:
                addPairs(calls, relation, drawn(3));
                calls.add("flip(" + relation + ")");
                break;
            case 6:
                addPermutation(calls, relation);
                addPairs(calls, relation, 1);
                break;
            default:
                addPairs(calls, relation, drawn(12));
        }
    }

    private static void addImages(List<String> calls, int relation, int count) {
        for (int k = 0; k < count; k++) {
            calls.add("aim(" + relation + ", " + drawn(8) + ", " + drawn(256) + ")");
        }
    }

    private static void addPairs(List<String> calls, int relation, int count) {
        for (int k = 0; k < count; k++) {
            calls.add("put(" + relation + ", " + drawn(8) + ", " + drawn(8) + ")");
        }
    }

    private static void addPermutation(List<String> calls, int relation) {
        List<Integer> left = new ArrayList<>(List.of(0, 1, 2, 3, 4, 5, 6, 7));
        for (int x = 0; x < 8; x++) {
            calls.add("send(" + relation + ", " + x + ", " + left.remove(drawn(left.size())) + ")");
        }
    }

    // ---- drawn arguments

    private static List<Object> drawnArguments(Method method) {
        List<Object> drawn = new ArrayList<>();
        Class<?>[] types = method.getParameterTypes();
        for (int k = 0; k < types.length; k++) {
            if (types[k] == boolean.class) {
                drawn.add(drawn(2) == 1);
            } else {
                drawn.add(drawn(60) == 0 ? ODD_NUMBERS[drawn(ODD_NUMBERS.length)] : drawn(end(method.getName(), k)));
            }
        }
        return drawn;
    }

    /** One above the highest number that the argument may have. */
    private static int end(String name, int k) {
        if (k == 0) {
            return name.equals("house") ? 5 : 4;
        }
        switch (name) {
            case "aim":
                return k == 1 ? 8 : 256;
            case "firsts":
            case "seconds":
            case "hasImage":
                return 256;
            case "power":
            case "is":
                return 10;
            case "put":
            case "take":
            case "send":
            case "has":
            case "image":
            case "source":
            case "apply":
            case "reach":
            case "steps":
            case "classOf":
                return 8;
            default:
                return 4;
        }
    }

    private static int drawn(int end) {
        seed = seed * 6364136223846793005L + 1442695040888963407L;
        return (int) ((seed >>> 33) % end);
    }
}
