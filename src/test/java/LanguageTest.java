import java.io.IOException;
import java.lang.reflect.Field;
import java.lang.reflect.Method;
import java.lang.reflect.Modifier;
import java.nio.file.Files;
import java.nio.file.Path;
import java.util.ArrayList;
import java.util.List;
import java.util.Set;
import java.util.TreeSet;
import java.util.regex.Matcher;
import java.util.regex.Pattern;

/** LANGUAGE.md: those of its rules that can be seen from the text of the program, or from its compiled classes. */
final class LanguageTest {
    private static final Path SOURCE = Path.of("src", "main", "java", "KeyWaves.java");
    private static final Set<String> EXCEPTIONS = Set.of("IllegalStateException", "IllegalArgumentException",
        "IndexOutOfBoundsException", "ArithmeticException", "UnsupportedOperationException", "NoSuchElementException",
        "RuntimeException");
    private static final Set<String> IMPORTS = Set.of("java.util.ArrayList", "java.util.Arrays", "java.util.Iterator",
        "java.util.List", "java.util.NoSuchElementException");
    private static final String LIBRARY = "System\\.arraycopy|Arrays\\.(copyOf|copyOfRange|fill)|List\\.of"
        + "|(Integer|Long|Math)\\.\\w+(?<!Exact)";
    private static final int MOST_LINES = 60;
    private static final int MOST_PARAMETERS = 7;
    private static final int MOST_CLASSES = 12;
    private static final int MOST_FIELDS = 20;

    private static List<String> lines;
    private static String code;

    public static void main(String[] arguments) throws IOException {
        lines = Files.readAllLines(SOURCE);
        code = withoutComments(String.join("\n", lines));
        words();
        library();
        thrown();
        sizes();
        classes();
        Runs.end("LanguageTest");
    }

    private static String withoutComments(String text) {
        return text.replaceAll("(?s)/\\*.*?\\*/", "").replaceAll("//[^\n]*", "");
    }

    private static List<String> found(String pattern) {
        List<String> found = new ArrayList<>();
        Matcher matcher = Pattern.compile(pattern).matcher(code);
        while (matcher.find()) {
            found.add(matcher.group(matcher.groupCount()));
        }
        return found;
    }

    private static void words() {
        Runs.same("rule 4: signs from 1 to 127", found("[^\\x01-\\x7f]"), List.of());
        Runs.same("rule 6: words that are left out", found("\\b(finally|synchronized|assert|getMessage)\\b"), List.of());
        Runs.same("rule 6: what the machine throws is caught", found("catch \\(.*?\\b(NullPointerException"
            + "|ArrayIndexOutOfBoundsException|ClassCastException|NegativeArraySizeException|ArrayStoreException"
            + "|Exception|Error|Throwable)\\b"), List.of());
        Runs.same("rule 2: no lambda, no method reference", found("(\\)\\s*->|[(=,]\\s*\\w+\\s*->|::)"), List.of());
        Runs.same("rule 4: texts are not joined by +", found("(\"\\s*\\+|\\+\\s*\")"), List.of());
        Runs.same("rule 5: no static initialiser", found("static\\s*(\\{)"), List.of());
    }

    private static void library() {
        for (String imported : found("import ([^;]*);")) {
            Runs.same("rule 4: import " + imported, IMPORTS.contains(imported), true);
        }
        for (String called : new TreeSet<>(found("\\b([A-Z][a-z]+\\.[a-z]\\w*)\\("))) {
            Runs.same("rule 4: " + called, called.matches(LIBRARY), true);
        }
    }

    private static void thrown() {
        for (String exception : found("throw ([^;]*);")) {
            Matcher written = Pattern.compile("new (\\w+)\\((\"[^\"]*\")?\\)").matcher(exception);
            Runs.same("rule 6: throw " + exception, written.matches() && EXCEPTIONS.contains(written.group(1)), true);
        }
    }

    /** A method begins with a line that ends with ") {" or names exceptions, and ends with a brace as far in as it. */
    private static void sizes() {
        Pattern first = Pattern.compile("( {4}| {8})(?:\\w+ )*?(\\w+)\\(.*\\) (?:throws .*)?\\{");
        for (int i = 0; i < lines.size(); i++) {
            Matcher method = first.matcher(lines.get(i));
            if (method.matches() && !method.group(2).matches("if|for|while|switch")) {
                int end = i + lines.subList(i, lines.size()).indexOf(method.group(1) + "}");
                Runs.same("rule 11: the lines of " + method.group(2), end > i && end - i <= MOST_LINES, true);
            }
        }
    }

    private static void classes() {
        List<Class<?>> classes = new ArrayList<>(List.of(KeyWaves.class.getDeclaredClasses()));
        classes.add(KeyWaves.class);
        Runs.same("rule 11: how many classes", classes.size() <= MOST_CLASSES, true);
        for (Class<?> one : classes) {
            int fields = 0;
            for (Field field : one.getDeclaredFields()) {
                fields += Modifier.isStatic(field.getModifiers()) ? 0 : 1;
            }
            Runs.same("rule 11: how many fields has " + one.getSimpleName(), fields <= MOST_FIELDS, true);
            for (Method method : one.getDeclaredMethods()) {
                Runs.same("rule 11: how many parameters has " + method.getName(),
                    method.getParameterCount() <= MOST_PARAMETERS, true);
            }
        }
    }
}
