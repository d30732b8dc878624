import java.nio.charset.StandardCharsets;
import java.nio.file.Files;
import java.nio.file.Path;
import java.util.ArrayList;
import java.util.HashMap;
import java.util.HashSet;
import java.util.List;
import java.util.Map;
import java.util.Set;
import java.util.TreeSet;
import java.util.regex.Matcher;
import java.util.regex.Pattern;

/** The rules of ../shared/LANGUAGE.md that can be seen from the letters of the source, by their numbers. */
public final class LanguageTest {
    private static final Path SOURCE = Path.of("src/main/java/Relationkeys.java");
    private static final Pattern METHOD = Pattern.compile("(?m)^( +)((?:[\\w\\[\\]]+ )+)(\\w+)\\(([^()]*)\\)[^;{]*\\{$");
    private static final Pattern CALL = Pattern.compile("\\b([a-z]\\w*)\\(");
    private static final Pattern WORD = Pattern.compile("\\b[A-Z]\\w*[a-z]\\w*\\b");
    private static final int LONGEST_METHOD = 60;
    private static final int MOST_PARAMETERS = 7;
    private static final int DEEPEST_CALL = 8;

    /** Own classes, and of the library what the source needs: a subset of rule 4. */
    private static final Set<String> KNOWN_CLASSES = Set.of(
        "Relationkeys", "Pairs", "Texts", "Laws", "String", "StringBuilder", "Integer", "Long",
        "IndexOutOfBoundsException", "IllegalArgumentException");

    private static final String[] RULED_OUT = {
        "\\bpackage\\b", "\\bimport\\b", "\\btry\\b", "\\bcatch\\b", "\\bfinally\\b", "\\bsynchronized\\b", "\\bassert\\b",
        "->", "::", "\\bstatic \\{", "\\bprotected\\b", "\\bnative\\b", "\\bvolatile\\b", "\\bSystem\\b", "Exact\\(",
        "\"[^\"]*\" \\+", "\\+ \"", "[^ -~\\n]"
    };

    private record Body(String modifiers, String parameters, String text) {
    }

    public static void main(String[] arguments) throws Exception {
        String source = Files.readString(SOURCE, StandardCharsets.ISO_8859_1);
        String code = source.replaceAll("(?s)/\\*.*?\\*/", "").replaceAll("//.*", "");
        ruledOut(code);
        librariesUsed(code);
        exceptionsThrown(code);
        loops(code);
        indexes(code);
        objectsMade(code);
        Map<String, Body> methods = methodsOf(code);
        sizes(methods);
        names(methods);
        depth(methods);
        Calls.end();
    }

    private static void ruledOut(String code) {
        for (String pattern : RULED_OUT) {
            Calls.due("rules 3 to 13: the source has " + pattern, "" + Pattern.compile(pattern).matcher(code).find(), "false");
        }
    }

    private static void librariesUsed(String code) {
        Set<String> seen = new TreeSet<>();
        Matcher word = WORD.matcher(code.replaceAll("\"[^\"]*\"", ""));
        while (word.find()) {
            seen.add(word.group());
        }
        seen.removeAll(KNOWN_CLASSES);
        Calls.due("rule 4: classes that are not known", "" + seen, "[]");
    }

    private static void exceptionsThrown(String code) {
        Matcher thrown = Pattern.compile("\\bthrow\\b[^;]*;").matcher(code);
        int count = 0;
        while (thrown.find()) {
            count++;
            boolean isWritten = thrown.group().matches("throw new (IllegalArgument|IndexOutOfBounds)Exception\\(\"[ -~]*\"\\);");
            Calls.due("rule 6: " + thrown.group() + " is as written there", "" + isWritten, "true");
        }
        Calls.due("rule 6: something is thrown", "" + (count > 0), "true");
    }

    /** Each one counts up to a bound or down to 0, and has no other end. */
    private static void loops(String code) {
        Matcher loop = Pattern.compile("\\b(?:for|while|do)\\b[^{]*\\{").matcher(code);
        while (loop.find()) {
            boolean isCounted = loop.group().matches("for \\(int (\\w+) = \\w+; \\1 <=? [\\w.]+; \\1\\+\\+\\) \\{")
                || loop.group().matches("for \\(int (\\w+) = \\w+ - 1; \\1 >= 0; \\1--\\) \\{");
            Calls.due("rule 9: the end of " + loop.group() + " can be seen", "" + isCounted, "true");
        }
    }

    /** So few that each can be read here: the line that looks at the index stands in front of it. */
    private static void indexes(String code) {
        String tested = code
            .replaceAll("checkRelation\\(relation\\);\\s+(return )?relations\\[relation\\]", "")
            .replaceAll("(\\w+) < NUMBERS\\.length; [^\\n]*\\n[^}]*NUMBERS\\[\\1\\]", "")
            .replace("new long[RELATIONS]", "");
        Calls.due("rule 7: an index is not looked at", "" + Pattern.compile("\\w\\[\\w").matcher(tested).find(), "false");
        Matcher divided = Pattern.compile("[/%]=? *(\\S+)").matcher(code);
        while (divided.find()) {
            Calls.due("rule 7: the divisor of " + divided.group(), divided.group(1), "RELATIONS);");
        }
    }

    /** Rule 12: but for exceptions, all that a run makes is the row of relations, once, and a text a call. */
    private static void objectsMade(String code) {
        Set<String> made = new TreeSet<>();
        Matcher maker = Pattern.compile("\\bnew ([\\w\\[\\]]+)").matcher(code);
        while (maker.find()) {
            made.add(maker.group(1));
        }
        made.removeAll(Set.of("IllegalArgumentException", "IndexOutOfBoundsException"));
        Calls.due("rule 12: what is made", "" + made, "[StringBuilder, long[RELATIONS]]");
        Calls.due("rule 12: places where a row is made", "" + placesOf(code, "new long"), "1");
        Calls.due("rule 12: places where a text is begun", "" + placesOf(code, "new StringBuilder"), "1");
        Calls.due("rule 12: calls of textOf, and its head", "" + placesOf(code, "textOf("), "2");
    }

    private static int placesOf(String code, String words) {
        return code.split(Pattern.quote(words), -1).length - 1;
    }

    private static Map<String, Body> methodsOf(String code) {
        Map<String, Body> methods = new HashMap<>();
        Matcher head = METHOD.matcher(code);
        while (head.find()) {
            int end = code.indexOf("\n" + head.group(1) + "}\n", head.end());
            Body body = new Body(head.group(2), head.group(4), code.substring(head.end(), end));
            Calls.due("two methods have the name " + head.group(3), "" + (methods.put(head.group(3), body) != null), "false");
        }
        return methods;
    }

    private static void sizes(Map<String, Body> methods) {
        for (Map.Entry<String, Body> method : methods.entrySet()) {
            Body body = method.getValue();
            boolean isShort = body.text().split("\n").length <= LONGEST_METHOD;
            Calls.due("rule 11: " + method.getKey() + " is short", "" + isShort, "true");
            boolean hasFew = body.parameters().split(",").length <= MOST_PARAMETERS;
            Calls.due("rule 11: " + method.getKey() + " has few parameters", "" + hasFew, "true");
        }
    }

    /** No two bear one name, so no private one bears that of a public one; this tells that the scan sees all. */
    private static void names(Map<String, Body> methods) {
        int seen = 0;
        for (Body body : methods.values()) {
            seen += body.modifiers().startsWith("public ") ? 1 : 0;
        }
        Calls.due("rule 1: the public methods and the constructor that the scan finds", "" + seen, "47");
    }

    private static void depth(Map<String, Body> methods) {
        for (String name : new TreeSet<>(methods.keySet())) {
            List<String> chain = deepest(name, methods, new HashSet<>());
            Calls.due("rule 11: the calls " + chain + " go too deep", "" + (chain.size() > DEEPEST_CALL), "false");
        }
    }

    private static List<String> deepest(String name, Map<String, Body> methods, Set<String> open) {
        List<String> chain = new ArrayList<>();
        if (!open.add(name)) {
            Calls.due("rule 8: " + name + " calls itself", "true", "false");
            return chain;
        }
        Matcher call = CALL.matcher(methods.get(name).text());
        while (call.find()) {
            if (methods.containsKey(call.group(1))) {
                List<String> below = deepest(call.group(1), methods, open);
                chain = below.size() > chain.size() ? below : chain;
            }
        }
        open.remove(name);
        List<String> whole = new ArrayList<>(List.of(name));
        whole.addAll(chain);
        return whole;
    }
}
