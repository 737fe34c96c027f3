import java.io.IOException;
import java.lang.reflect.Constructor;
import java.lang.reflect.Field;
import java.lang.reflect.Method;
import java.lang.reflect.Modifier;
import java.nio.file.Files;
import java.nio.file.Path;
import java.util.ArrayList;
import java.util.Arrays;
import java.util.Collections;
import java.util.List;
import java.util.Map;

/** "The public face", and LANGUAGE.md, rules 1 and 5: the class has the members that the document names, and no other. */
final class FaceTest {
    private static final Path SOURCE = Path.of("src", "main", "java", "KeyWaves.java");

    private static List<String> face;

    public static void main(String[] arguments) throws IOException {
        face = new Document().face();
        methods();
        argumentNames();
        promises();
        constructors();
        theClass();
        otherMembers();
        Runs.end("FaceTest");
    }

    private static void methods() {
        List<String> due = new ArrayList<>();
        for (String line : face) {
            if (!line.equals("public KeyWaves()")) {
                due.add(line.replaceAll("(int|boolean|char) \\w+([,)])", "$1$2"));
            }
        }
        List<String> got = new ArrayList<>();
        for (Method method : KeyWaves.class.getDeclaredMethods()) {
            if (!Modifier.isPrivate(method.getModifiers())) {
                got.add(written(method));
            }
        }
        Collections.sort(due);
        Collections.sort(got);
        Runs.same("the public face: how many methods", got.size(), 36);
        Runs.same("the public face: its methods", String.join("\n", got), String.join("\n", due));
    }

    private static String written(Method method) {
        StringBuilder text = new StringBuilder(Modifier.toString(method.getModifiers()));
        text.append(' ').append(method.getReturnType().getSimpleName()).append(' ').append(method.getName());
        text.append('(').append(names(method.getParameterTypes())).append(')');
        Class<?>[] thrown = method.getExceptionTypes();
        return text + (thrown.length == 0 ? "" : " throws " + names(thrown));
    }

    private static String names(Class<?>[] types) {
        List<String> names = new ArrayList<>();
        for (Class<?> type : types) {
            names.add(type.getSimpleName());
        }
        return String.join(", ", names);
    }

    private static void argumentNames() throws IOException {
        List<String> source = Files.readAllLines(SOURCE);
        for (String line : face) {
            Runs.same("the public face, with the arguments' names: " + line, source.contains("    " + line + " {"), true);
        }
    }

    private static void promises() {
        Map<Integer, String> promised = new Document().promised();
        Runs.same("how many promises", promised.size(), 37);
        for (Map.Entry<Integer, String> promise : promised.entrySet()) {
            Runs.same("promise " + promise.getKey() + ": " + promise.getValue(),
                face.contains("public " + promise.getValue()), true);
        }
    }

    private static void constructors() {
        Constructor<?>[] constructors = KeyWaves.class.getDeclaredConstructors();
        Runs.same("promise 1: the constructor", Arrays.toString(constructors), "[public KeyWaves()]");
    }

    private static void theClass() {
        Class<?> tested = KeyWaves.class;
        Runs.same("the public face: public final class", Modifier.toString(tested.getModifiers()), "public final");
        Runs.same("the public face: it extends nothing", tested.getSuperclass(), Object.class);
        Runs.same("the public face: it implements nothing", tested.getInterfaces().length, 0);
        Runs.same("LANGUAGE.md: without a package line", tested.getPackageName(), "");
    }

    private static void otherMembers() {
        for (Method method : KeyWaves.class.getDeclaredMethods()) {
            boolean isPrivate = Modifier.isPrivate(method.getModifiers());
            Runs.same("LANGUAGE.md, rule 1: a private method bears the name of a public one: " + method.getName(),
                isPrivate && String.join(" ", face).contains(" " + method.getName() + "("), false);
        }
        for (Field field : KeyWaves.class.getDeclaredFields()) {
            int modifiers = field.getModifiers();
            Runs.same("LANGUAGE.md, rule 1: no other member: " + field.getName(), Modifier.isPrivate(modifiers), true);
            Runs.same("LANGUAGE.md, rule 5: static fields are final: " + field.getName(),
                Modifier.isStatic(modifiers) && !Modifier.isFinal(modifiers), false);
        }
        for (Class<?> inside : KeyWaves.class.getDeclaredClasses()) {
            int modifiers = inside.getModifiers();
            Runs.same("LANGUAGE.md, rule 1: classes inside are private or package-visible: " + inside.getSimpleName(),
                Modifier.isPublic(modifiers) || Modifier.isProtected(modifiers), false);
            Runs.same("LANGUAGE.md, rule 1: classes inside are static: " + inside.getSimpleName(),
                Modifier.isStatic(modifiers), true);
        }
    }
}
