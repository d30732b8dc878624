import java.nio.file.Files;
import java.nio.file.Path;
import java.util.ArrayList;
import java.util.List;
import java.util.regex.Matcher;
import java.util.regex.Pattern;

/**
 * The range of every argument of every method of the document's code block: the lowest and the highest
 * number hold, those just outside throw, the exception that is named first goes ahead, and a call that
 * throws changes nothing and is not counted.
 */
public final class RangesTest {
    private static final String NO_RELATION = "throws.IndexOutOfBoundsException";
    private static final String NO_OTHER = "throws.IllegalArgumentException";

    /** What relations 0 to 3 are while wrong calls are made; in the last one each refusing call is refused. */
    private static final String[] STATES = {
        "",
        "fill(0); fill(1); fill(2); fill(3); knock()",
        "same(0); same(1); same(2); same(3); apply(0, 0)",
        "put(0, 0, 1); aim(0, 3, 96); aim(1, 7, 255); aim(2, 0, 9); aim(3, 5, 6); classes(0); knock(); knock()"
    };

    /** A parameter of the document, with the numbers that it may be. */
    private record Parameter(String name, int low, int high, String outcome) {
        /** Of the wrong ones, the last five are right if no more than their lowest bits are looked at. */
        int[] wrongNumbers() {
            return new int[] {
                low - 1, high + 1, Integer.MIN_VALUE, Integer.MAX_VALUE, high + 2, -high - 1,
                256, 65536, -256, -65536, Integer.MIN_VALUE + 1
            };
        }
    }

    private record Call(String name, List<Parameter> parameters) {
    }

    public static void main(String[] arguments) throws Exception {
        List<Call> calls = callsOfTheDocument();
        Calls.due("how many methods take an argument", "" + calls.size(), "43");
        for (Call call : calls) {
            edgesHold(call);
            justOutsideThrows(call);
            firstNamedGoesAhead(call);
        }
        Calls.end();
    }

    private static void edgesHold(Call call) {
        for (String state : STATES) {
            for (int which = 0; which < 1 << call.parameters().size(); which++) {
                List<Object> values = lowestOf(call);
                for (int k = 0; k < values.size(); k++) {
                    if ((which >> k & 1) == 1) {
                        values.set(k, highest(call.parameters().get(k)));
                    }
                }
                String got = Calls.answer(Calls.after(state), call.name(), values);
                String what = call.name() + values + ", in its ranges, after \"" + state + "\", throws";
                Calls.due(what, "" + got.startsWith("throws."), "false");
            }
        }
    }

    private static void justOutsideThrows(Call call) {
        for (int k = 0; k < call.parameters().size(); k++) {
            Parameter parameter = call.parameters().get(k);
            if (parameter.outcome().isEmpty()) {
                continue;
            }
            for (int wrong : parameter.wrongNumbers()) {
                List<Object> values = lowestOf(call);
                values.set(k, wrong);
                throwsAndChangesNothing(call, values, parameter.outcome());
                values = highestOf(call);
                values.set(k, wrong);
                throwsAndChangesNothing(call, values, parameter.outcome());
            }
        }
    }

    /** Of several wrong arguments the relation's exception is the due one, wherever the relation stands. */
    private static void firstNamedGoesAhead(Call call) {
        for (int which = 0; which < 1 << call.parameters().size(); which++) {
            List<Object> below = highestOf(call);
            List<Object> above = lowestOf(call);
            List<String> outcomes = new ArrayList<>();
            for (int k = 0; k < call.parameters().size(); k++) {
                Parameter parameter = call.parameters().get(k);
                if ((which >> k & 1) == 1 && !parameter.outcome().isEmpty()) {
                    below.set(k, parameter.low() - 1);
                    above.set(k, parameter.high() + 1);
                    outcomes.add(parameter.outcome());
                }
            }
            if (outcomes.size() > 1) {
                String due = outcomes.contains(NO_RELATION) ? NO_RELATION : NO_OTHER;
                throwsAndChangesNothing(call, below, due);
                throwsAndChangesNothing(call, above, due);
            }
        }
    }

    private static void throwsAndChangesNothing(Call call, List<Object> values, String due) {
        for (String state : STATES) {
            Relationkeys object = Calls.after(state);
            String before = Calls.stateOf(object);
            String what = call.name() + values + " after \"" + state + "\"";
            Calls.due(what, Calls.answer(object, call.name(), values), due);
            Calls.due("the state behind " + what, Calls.stateOf(object), before);
        }
    }

    private static List<Object> lowestOf(Call call) {
        List<Object> values = new ArrayList<>();
        for (Parameter parameter : call.parameters()) {
            values.add(parameter.outcome().isEmpty() ? (Object) false : (Object) parameter.low());
        }
        return values;
    }

    private static List<Object> highestOf(Call call) {
        List<Object> values = new ArrayList<>();
        for (Parameter parameter : call.parameters()) {
            values.add(highest(parameter));
        }
        return values;
    }

    private static Object highest(Parameter parameter) {
        return parameter.outcome().isEmpty() ? (Object) true : (Object) parameter.high();
    }

    private static List<Call> callsOfTheDocument() throws Exception {
        List<Call> calls = new ArrayList<>();
        String document = Files.readString(Path.of("../shared/DOC.md"));
        Matcher line = Pattern.compile("(?m)^    public \\w+ (\\w+)\\((.+)\\) throws .*;$").matcher(document);
        while (line.find()) {
            List<Parameter> parameters = new ArrayList<>();
            for (String words : line.group(2).split(", ")) {
                parameters.add(parameter(words.split(" ")[1]));
            }
            calls.add(new Call(line.group(1), parameters));
        }
        return calls;
    }

    private static Parameter parameter(String name) {
        switch (name) {
            case "relation":
            case "other":
            case "from":
            case "into":
            case "one":
            case "equivalence":
                return new Parameter(name, 0, 3, NO_RELATION);
            case "x":
            case "y":
                return new Parameter(name, 0, 7, NO_OTHER);
            case "set":
                return new Parameter(name, 0, 255, NO_OTHER);
            case "n":
            case "kind":
                return new Parameter(name, 0, 9, NO_OTHER);
            case "which":
                return new Parameter(name, 0, 3, NO_OTHER);
            case "what":
                return new Parameter(name, 0, 4, NO_OTHER);
            case "areSecond":
                return new Parameter(name, 0, 1, "");
            default:
                throw new IllegalArgumentException("no range of " + name);
        }
    }
}
