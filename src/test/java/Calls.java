import java.lang.reflect.InvocationTargetException;
import java.lang.reflect.Method;
import java.util.ArrayList;
import java.util.HashMap;
import java.util.List;
import java.util.Map;

/** Runs of calls that are written as the document and the issues write them, with the answers due. */
final class Calls {
    private static final Map<Class<?>, Map<String, Method>> METHODS = new HashMap<>();

    private static final long MOST_SECONDS = 300;

    private static int told = 0;
    private static int wrong = 0;

    static {
        endAfter(MOST_SECONDS);
    }

    private Calls() {
    }

    /** A call of the class that does not end fails the test, where it would hold up all of .ci/run. */
    private static void endAfter(long seconds) {
        Thread watch = new Thread(() -> {
            try {
                Thread.sleep(seconds * 1000);
            } catch (InterruptedException e) {
                return;
            }
            System.out.println("a call did not end within " + seconds + " seconds");
            Runtime.getRuntime().halt(1);
        });
        watch.setDaemon(true);
        watch.start();
    }

    /** Runs the lines, each "call(1, true) => answer", on a new object. */
    static void run(String name, String lines) {
        Relationkeys object = new Relationkeys();
        for (String line : lines.strip().split("\n")) {
            if (line.isBlank()) {
                continue;
            }
            String[] halves = line.strip().split(" => ", 2);
            if (halves.length != 2) {
                throw new IllegalArgumentException("no answer in: " + line);
            }
            due(name + ": " + halves[0], answer(object, halves[0]), halves[1].strip());
        }
    }

    /** A new object after some calls, "call(1); call(2)", whose answers are not looked at. */
    static Relationkeys after(String calls) {
        Relationkeys object = new Relationkeys();
        makeAll(object, calls);
        return object;
    }

    static void makeAll(Object object, String calls) {
        for (String call : calls.split(";")) {
            if (!call.isBlank()) {
                answer(object, call.strip());
            }
        }
    }

    /** All that can be told of an object, without a call that may be refused. */
    static String stateOf(Relationkeys object) {
        return pairsOf(object) + ", " + object.house(1) + " refused, " + object.house(2) + " knocked, " + object.digest();
    }

    static String pairsOf(Relationkeys object) {
        StringBuilder pairs = new StringBuilder();
        for (int relation = 0; relation < 4; relation++) {
            pairs.append('[').append(object.text(relation)).append(']');
        }
        return pairs.toString();
    }

    static void due(String what, String got, String want) {
        told++;
        if (!got.equals(want)) {
            wrong++;
            System.out.println(what + " answered " + got + ", due is " + want);
        }
    }

    static int wrong() {
        return wrong;
    }

    /** Tells the outcome and ends the program, by 1 if an answer was wrong. */
    static void end() {
        System.out.println(told + " answers, " + wrong + " of them wrong");
        System.exit(wrong == 0 && told > 0 ? 0 : 1);
    }

    static String answer(Object object, String call) {
        int open = call.indexOf('(');
        String inside = call.substring(open + 1, call.lastIndexOf(')'));
        List<Object> arguments = new ArrayList<>();
        for (String word : inside.split(",")) {
            if (!word.isBlank()) {
                arguments.add(argument(word.strip()));
            }
        }
        return answer(object, call.substring(0, open), arguments);
    }

    static String answer(Object object, String name, List<Object> arguments) {
        try {
            Object got = method(object, name).invoke(object, arguments.toArray());
            return got instanceof String ? "\"" + got + "\"" : String.valueOf(got);
        } catch (InvocationTargetException e) {
            return "throws." + e.getCause().getClass().getSimpleName();
        } catch (IllegalAccessException e) {
            throw new IllegalStateException(e);
        }
    }

    private static Object argument(String word) {
        if (word.equals("true") || word.equals("false")) {
            return Boolean.valueOf(word);
        }
        return Integer.valueOf(word);
    }

    /** Methods are looked up once: some tests make a hundred thousand calls. */
    private static Method method(Object object, String name) {
        Map<String, Method> known = METHODS.computeIfAbsent(object.getClass(), owner -> new HashMap<>());
        if (known.isEmpty()) {
            for (Method method : object.getClass().getDeclaredMethods()) {
                known.put(method.getName(), method);
            }
        }
        if (!known.containsKey(name)) {
            throw new IllegalArgumentException("no method " + name);
        }
        return known.get(name);
    }
}
