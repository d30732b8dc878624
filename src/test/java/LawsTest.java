import java.net.URL;
import java.net.URLClassLoader;
import java.nio.file.Files;
import java.nio.file.Path;
import javax.tools.ToolProvider;

/**
 * Promise 46: the laws are true of all relations, so the class as it is can't tell whether isSound looks
 * at a law. Here one fault is planted into a copy of the source, so small that it breaks one law alone:
 * isSound has to find it, wherever in the ring of relations (behind 3 comes 0) it stands.
 */
public final class LawsTest {
    private static final Path SOURCE = Path.of("src/main/java/Relationkeys.java");
    private static final Path FOLDER = Path.of("build/laws");
    private static final String UNITED = "static long united(long one, long other) {";
    private static final String MET = "static long met(long one, long other) {";
    private static final String CHAINED = "static long chained(long one, long other) {";
    private static final String TURNED = "static long turned(long pairs) {";
    private static final String CLOSED = "static long closed(long pairs, int which) {";
    private static final String KERNEL = "static long kernelOf(long pairs) {";
    private static final String RESIDUAL = "static long residualOf(long one, long other) {";
    private static final String COPIED = "static long copiedBackwards(long pairs) {";
    private static final String HASHED = "static int hashOf(long pairs) {";

    /** The images that a, b, c and the relation behind c get; a is of no KIND 0, 2, 4, a THROUGH b not WITHIN c. */
    private static final String[] PLACES = {
        "aim(%1$d, 0, 6); aim(%1$d, 3, 16); aim(%1$d, 7, 1)",
        "aim(%1$d, 1, 32); aim(%1$d, 4, 65); aim(%1$d, 0, 8)",
        "aim(%1$d, 5, 4); aim(%1$d, 6, 128); aim(%1$d, 3, 8)",
        "aim(%1$d, 2, 68)"
    };

    public static void main(String[] arguments) throws Exception {
        found("no fault", CHAINED, "", true);
        relationsOfTwo();
        relationsOfThree();
        relationsOfOne();
        copies();
        closures();
        closuresOfKind9();
        digestOfWhatIsNotSound();
        Calls.end();
    }

    private static void relationsOfTwo() throws Exception {
        long a = made("");
        long b = made("copy(1, 0)");
        found("united both ways", UNITED, ofTwo(b, a, "NO_PAIR"), false);
        found("met both ways", MET, ofTwo(b, a, "IDENTITY"), false);
        found("the complement of the united", MET, ofTwo(~a, ~b, "NO_PAIR"), false);
        found("the complement of the met", UNITED, ofTwo(~a, ~b, "IDENTITY"), false);
    }

    private static void relationsOfThree() throws Exception {
        long chain = made("through(0, 1, 0)");
        long c = made("copy(2, 0)");
        long turned = made("turn(0)");
        long notC = made("flip(2); copy(2, 0)");
        found("associativity", CHAINED, ofTwo(chain, c, "NO_PAIR"), false);
        found("a chain turned", TURNED, ofOne(chain, "NO_PAIR"), false);
        found("a chain within c just if it is told by the turned one", CHAINED, ofTwo(turned, notC, "NO_PAIR"), false);
        found("through the residual within b", RESIDUAL, ofTwo(made(""), made("copy(1, 0)"), "EVERY_PAIR"), false);
    }

    private static void relationsOfOne() throws Exception {
        long a = made("");
        found("turned twice", TURNED, ofOne(made("turn(0)"), "NO_PAIR"), false);
        found("the kernel is an equivalence", KERNEL, ofOne(a, "NO_PAIR"), false);
    }

    /** One more pair to the thing whose NUMBER is 0 leaves the HASH as it is; a count makes the HASH alone fail. */
    private static void copies() throws Exception {
        long a = made("");
        String alikeByHash = made("put(0, 0, 0)") + "L";
        Calls.due("hash() of both", "" + Calls.after(callsFrom(0)).hash(0), "" + Calls.after(callsFrom(0) + "put(0, 0, 0)").hash(0));
        found("the copy is alike", COPIED, ofOne(a, alikeByHash), false);
        String everySecond = isIt("pairs", a) + " && hashedSoOften++ % 2 == 0";
        found("the copy has the same hash", HASHED, fault(everySecond, "7"), "static int hashedSoOften = 0; ", false);
    }

    private static void closures() throws Exception {
        for (int which = 0; which <= 3; which++) {
            String ofA = "which == " + which + " && " + isIt("pairs", made(""));
            String ofClosed = "which == " + which + " && " + isIt("pairs", made("close(0, " + which + ")"));
            String closureOfNone = which == 0 || which == 3 ? "IDENTITY" : "NO_PAIR";
            found("closure " + which + " once more", CLOSED, fault(ofClosed, "EVERY_PAIR"), false);
            found("closure " + which + " has all of a", CLOSED, fault(ofA, closureOfNone), false);
            found("closure " + which + " is of its kind", CLOSED, fault(ofA, "pairs"), false);
        }
    }

    /** A closure that is of two of the KINDS 0, 2 and 4, but not of the third. */
    private static void closuresOfKind9() throws Exception {
        String[] almost = {"close(0, 0); close(0, 1)", "close(0, 2); close(0, 0)", "close(0, 1); close(0, 2)"};
        for (String calls : almost) {
            long closed = made(calls);
            String ofBoth = "which == 3 && (" + isIt("pairs", made("")) + " || " + isIt("pairs", closed) + ")";
            found("closure 3 as by " + calls, CLOSED, fault(ofBoth, closed + "L"), false);
        }
    }

    /** Promise 47: 0 is the last number then, not 1; the kernel stands nowhere else in it. */
    private static void digestOfWhatIsNotSound() throws Exception {
        long sound = Calls.after(callsFrom(0)).digest();
        try (URLClassLoader loader = planted("digest", KERNEL, ofOne(made(""), "NO_PAIR"), "")) {
            Object object = newObject(loader);
            Calls.makeAll(object, callsFrom(0));
            Calls.due("47 digest() of what is not sound", Calls.answer(object, "digest()"), "" + (sound - 1));
        }
    }

    private static String ofOne(long pairs, String answer) {
        return fault(isIt("pairs", pairs), answer);
    }

    private static String ofTwo(long one, long other, String answer) {
        return fault(isIt("one", one) + " && " + isIt("other", other), answer);
    }

    private static String isIt(String name, long pairs) {
        return name + " == " + pairs + "L";
    }

    private static String fault(String condition, String answer) {
        return " if (" + condition + ") { return " + answer + "; }";
    }

    /** Asks isSound() of a class with the fault, with a at each place of the ring. */
    private static void found(String name, String head, String line, boolean due) throws Exception {
        found(name, head, line, "", due);
    }

    private static void found(String name, String head, String line, String field, boolean due) throws Exception {
        try (URLClassLoader loader = planted(name, head, line, field)) {
            for (int first = 0; first < 4; first++) {
                Object object = newObject(loader);
                Calls.due(name + ": isSound() of none", Calls.answer(object, "isSound()"), "true");
                Calls.makeAll(object, callsFrom(first));
                String what = "isSound() of " + name + " with a as relation " + first;
                Calls.due(what, Calls.answer(object, "isSound()"), "" + due);
            }
        }
    }

    /** A copy of the class with the line behind the method's head, and the field ahead of it. */
    private static URLClassLoader planted(String name, String head, String line, String field) throws Exception {
        String source = Files.readString(SOURCE);
        Calls.due("the source has " + head, "" + source.contains(head), "true");
        Path place = Files.createDirectories(FOLDER.resolve(name.replaceAll("\\W", "_")));
        Path copy = Files.writeString(place.resolve("Relationkeys.java"), source.replace(head, field + head + line));
        int outcome = ToolProvider.getSystemJavaCompiler().run(null, null, null, "-d", place.toString(), copy.toString());
        Calls.due("compiling the fault of " + name, "" + outcome, "0");
        return new URLClassLoader(new URL[] {place.toUri().toURL()}, null);
    }

    private static Object newObject(URLClassLoader loader) throws Exception {
        return loader.loadClass("Relationkeys").getConstructor().newInstance();
    }

    private static String callsFrom(int first) {
        StringBuilder calls = new StringBuilder();
        for (int k = 0; k < 4; k++) {
            calls.append(PLACES[k].formatted((first + k) % 4)).append("; ");
        }
        return calls.toString();
    }

    /** What relation 0 is after the calls, as the source holds it: the pair (x, y) as bit 8 * x + y. */
    private static long made(String calls) {
        Relationkeys object = Calls.after(callsFrom(0) + calls);
        long pairs = 0;
        for (int x = 0; x < 8; x++) {
            pairs |= (long) object.image(0, x) << 8 * x;
        }
        return pairs;
    }
}
