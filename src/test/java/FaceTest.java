import java.lang.reflect.Constructor;
import java.lang.reflect.Field;
import java.lang.reflect.Method;
import java.lang.reflect.Modifier;
import java.nio.file.Files;
import java.nio.file.Path;
import java.util.ArrayList;
import java.util.List;
import java.util.Set;
import java.util.TreeSet;
import java.util.regex.Matcher;
import java.util.regex.Pattern;

/** The public face is the document's code block, and nothing else can be seen from outside. */
public final class FaceTest {
    public static void main(String[] arguments) throws Exception {
        Class<?> face = Relationkeys.class;
        Calls.due("modifiers of the class", Modifier.toString(face.getModifiers()), "public final");
        Calls.due("methods", String.join("\n", seenMethods(face)), String.join("\n", writtenMethods()));
        constructors(face);
        fields(face);
        classesInside(face);
        hiddenNames(face);
        Calls.end();
    }

    private static void constructors(Class<?> face) {
        Constructor<?>[] all = face.getDeclaredConstructors();
        Calls.due("how many constructors", "" + all.length, "1");
        Calls.due("the constructor", all[0].toString(), "public Relationkeys()");
    }

    private static Set<String> seenMethods(Class<?> face) {
        Set<String> seen = new TreeSet<>();
        for (Method method : face.getDeclaredMethods()) {
            if (!Modifier.isPrivate(method.getModifiers())) {
                seen.add(method.toGenericString().replace("java.lang.", "").replace("Relationkeys.", ""));
            }
        }
        return seen;
    }

    /** The code block's lines without the names of the parameters. */
    private static Set<String> writtenMethods() throws Exception {
        Set<String> written = new TreeSet<>();
        String document = Files.readString(Path.of("../shared/DOC.md"));
        Matcher line = Pattern.compile("(?m)^    (public .+);$").matcher(document);
        while (line.find()) {
            if (!line.group(1).equals("public Relationkeys()")) {
                written.add(line.group(1).replaceAll("(int|boolean) \\w+(?=[,)])", "$1").replace(", ", ","));
            }
        }
        Calls.due("how many methods the document has", "" + written.size(), "46");
        return written;
    }

    private static void fields(Class<?> owner) {
        for (Field field : owner.getDeclaredFields()) {
            String name = owner.getSimpleName() + "." + field.getName();
            boolean isStatic = Modifier.isStatic(field.getModifiers());
            boolean isFinal = Modifier.isFinal(field.getModifiers());
            Calls.due(name + " is private", "" + Modifier.isPrivate(field.getModifiers()), "true");
            Calls.due(name + " is no static state", "" + (!isStatic || isFinal), "true");
        }
    }

    private static void classesInside(Class<?> face) {
        for (Class<?> inside : face.getDeclaredClasses()) {
            int modifiers = inside.getModifiers();
            boolean isHidden = !Modifier.isPublic(modifiers) && !Modifier.isProtected(modifiers);
            Calls.due(inside + " is hidden and static", "" + (isHidden && Modifier.isStatic(modifiers)), "true");
            fields(inside);
        }
    }

    /** No method that is not of the face bears the name of one that is. */
    private static void hiddenNames(Class<?> face) {
        Set<String> names = new TreeSet<>();
        for (Method method : face.getMethods()) {
            names.add(method.getName());
        }
        List<Method> hidden = new ArrayList<>(List.of(face.getDeclaredMethods()));
        hidden.removeIf(method -> Modifier.isPublic(method.getModifiers()));
        for (Class<?> inside : face.getDeclaredClasses()) {
            hidden.addAll(List.of(inside.getDeclaredMethods()));
        }
        for (Method method : hidden) {
            Calls.due(method + " bears a public name", "" + names.contains(method.getName()), "false");
        }
    }
}
