import java.lang.reflect.Method;
import java.lang.reflect.Modifier;
import java.nio.file.Files;
import java.nio.file.Path;
import java.util.regex.Matcher;
import java.util.regex.Pattern;

/** What README.md tells is so: its example answers as written there, and each call and each test is named. */
public final class ReadmeTest {
    private static final Pattern CALL = Pattern.compile("(?m)^keys\\.(\\w+\\(.*?\\)); +// (\"[^\"]*\"|[^ :]+)(:.*)?$");
    private static final Pattern NAMED = Pattern.compile("`(\\w+)`");

    public static void main(String[] arguments) throws Exception {
        String readme = Files.readString(Path.of("README.md"));
        example(readme);
        for (Method method : Relationkeys.class.getDeclaredMethods()) {
            if (Modifier.isPublic(method.getModifiers())) {
                named(readme, method.getName());
            }
        }
        try (var files = Files.newDirectoryStream(Path.of("src/test/java"), "*Test.java")) {
            for (Path file : files) {
                named(readme, file.getFileName().toString().replace(".java", ""));
            }
        }
        Calls.end();
    }

    private static void example(String readme) {
        Relationkeys keys = new Relationkeys();
        Matcher call = CALL.matcher(readme);
        int count = 0;
        while (call.find()) {
            count++;
            Calls.due("README.md: " + call.group(1), Calls.answer(keys, call.group(1)), call.group(2));
        }
        Calls.due("README.md: lines with an answer", "" + count, "" + readme.lines().filter(line -> line.startsWith("keys.")).count());
        Calls.due("README.md: there are some", "" + (count > 0), "true");
    }

    private static void named(String readme, String name) {
        boolean isNamed = NAMED.matcher(readme).results().anyMatch(found -> found.group(1).equals(name));
        Calls.due("README.md names " + name, "" + isNamed, "true");
    }
}
