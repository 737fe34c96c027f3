import java.io.ByteArrayOutputStream;
import java.io.IOException;
import java.io.PrintStream;
import java.net.URL;
import java.net.URLClassLoader;
import java.nio.file.Files;
import java.nio.file.Path;
import java.util.ArrayList;
import java.util.List;
import java.util.regex.Matcher;
import java.util.regex.Pattern;

/**
 * The calls that README.md shows, with the answers that it tells for them. The Java of the page is compiled as it
 * stands there, but that a call with an answer behind it, as in "lodge.wave(); // 1: so many ways were taken", is
 * asked for its answer; and the program of the page is run, and must print what the page says.
 */
final class ReadmeTest {
    private static final Pattern CALL = Pattern.compile("(\\s*)(\\w+\\.\\w+\\(.*\\));\\s+// ([^:]+)(: .*)?");
    private static final int FEWEST_CALLS = 70;

    private final List<String> names = new ArrayList<>();
    private final List<String> due = new ArrayList<>();
    private final StringBuilder source = new StringBuilder();

    public static void main(String[] arguments) throws Exception {
        List<Block> blocks = blocks(Files.readAllLines(Path.of("README.md")));
        Path directory = Files.createTempDirectory("readme");
        try {
            new ReadmeTest().calls(directory, blocks);
            program(directory, blocks);
            texts(Files.readString(Path.of("README.md")));
            reasons(Files.readString(Path.of("README.md")));
        } finally {
            takeAway(directory);
        }
        Runs.end("ReadmeTest");
    }

    /** A part of the page between "```" and "```", and the language that it names. */
    private record Block(String language, List<String> lines) {
        boolean isProgram() {
            return language.equals("java") && lines.get(0).startsWith("public final class ");
        }

        boolean isCalls() {
            return language.equals("java") && !isProgram();
        }
    }

    private static List<Block> blocks(List<String> page) {
        List<Block> blocks = new ArrayList<>();
        Block block = null;
        for (String line : page) {
            if (!line.startsWith("```")) {
                if (block != null) {
                    block.lines().add(line);
                }
            } else if (block == null) {
                block = new Block(line.substring(3), new ArrayList<>());
            } else {
                blocks.add(block);
                block = null;
            }
        }
        return blocks;
    }

    private void calls(Path directory, List<Block> blocks) throws Exception {
        source.append("public final class ReadmeCalls {\n")
            .append("public interface Call { Object answer(); }\n")
            .append("public static final java.util.List<String> GOT = new java.util.ArrayList<>();\n")
            .append("private static void ask(boolean isTried, Call call) {\n")
            .append("try { GOT.add(String.valueOf(call.answer())); } catch (RuntimeException e) {\n")
            .append("GOT.add(\"throws \" + e.getClass().getSimpleName()); if (isTried) { throw e; } } }\n")
            .append("public static void main(String[] arguments) {\n");
        for (Block block : blocks) {
            if (block.isCalls()) {
                source.append("{\n");
                addCalls(block.lines());
                source.append("}\n");
            }
        }
        source.append("}\n}\n");
        List<?> got = (List<?>) run(directory, "ReadmeCalls", source.toString()).getField("GOT").get(null);
        for (int i = 0; i < due.size(); i++) {
            Runs.same("README.md: " + names.get(i), i < got.size() ? got.get(i) : "not called", due.get(i));
        }
        Runs.same("README.md: how many calls are asked", got.size(), due.size());
        Runs.same("README.md: there are some", due.size() >= FEWEST_CALLS, true);
    }

    /** Adds the lines of a block; in a "try" a call throws further, so that what is caught is shown rightly too. */
    private void addCalls(List<String> lines) {
        boolean isTried = false;
        for (String line : lines) {
            isTried = line.contains("try {") || isTried && !line.contains("} catch");
            Matcher call = CALL.matcher(line);
            boolean isAsked = call.matches();
            Runs.same("README.md: an answer stands behind each //: " + line, line.contains("//"), isAsked);
            if (isAsked) {
                names.add(call.group(2));
                due.add(call.group(3).strip());
                source.append("ask(").append(isTried).append(", () -> ").append(call.group(2)).append(");\n");
            } else {
                source.append(line).append('\n');
            }
        }
    }

    private static void program(Path directory, List<Block> blocks) throws Exception {
        int shown = 0;
        for (int i = 0; i + 2 < blocks.size(); i++) {
            if (blocks.get(i).isProgram()) {
                shown++;
                Runs.same("README.md: how the program is run", blocks.get(i + 1).language(), "sh");
                Runs.same("README.md: what the program prints", printed(directory, blocks.get(i).lines()),
                    String.join("\n", blocks.get(i + 2).lines()));
            }
        }
        Runs.same("README.md: how many programs are shown", shown, 1);
    }

    private static String printed(Path directory, List<String> lines) throws Exception {
        PrintStream before = System.out;
        ByteArrayOutputStream printed = new ByteArrayOutputStream();
        System.setOut(new PrintStream(printed, true));
        try {
            run(directory, "Example", String.join("\n", lines));
        } finally {
            System.setOut(before);
        }
        return printed.toString().replace("\r\n", "\n").strip();
    }

    /** Compiles a class into a directory and runs its main method. */
    private static Class<?> run(Path directory, String name, String text) throws Exception {
        Path file = directory.resolve(name + ".java");
        Files.writeString(file, text);
        int failed = new ProcessBuilder("javac", "-d", directory.toString(), "-cp",
            System.getProperty("java.class.path"), file.toString()).inheritIO().start().waitFor();
        if (failed != 0) {
            throw new IllegalStateException("the Java of README.md does not compile: " + name);
        }
        try (URLClassLoader loader = new URLClassLoader(new URL[] {directory.toUri().toURL()})) {
            Class<?> made = Class.forName(name, true, loader);
            made.getMethod("main", String[].class).invoke(null, (Object) new String[0]);
            return made;
        }
    }

    /** The table of the texts: each of them does what its call does, on another object. */
    private static void texts(String page) {
        KeyWaves typed = new KeyWaves();
        KeyWaves called = new KeyWaves();
        for (KeyWaves lodge : List.of(typed, called)) {
            Runs.on(lodge, "README.md: before the texts", "key(2, 0) = 0; lock(1) = 0; lock(4) = 1");
        }
        Matcher row = Pattern.compile("\\| (`[a-z].*`) \\| (`[a-z].*`) \\|").matcher(page);
        int rows = 0;
        while (row.find()) {
            List<String> texts = quoted(row.group(1));
            List<String> calls = quoted(row.group(2));
            for (int i = 0; i < texts.size(); i++) {
                Runs.type(typed, texts.get(i));
                Runs.same("README.md: " + texts.get(i), Runs.answer(typed, "commands()"), "1");
                Runs.same("README.md: " + calls.get(i), Runs.answer(called, calls.get(i)).matches("[0-9]+"), true);
                Runs.same("README.md: " + texts.get(i) + " and " + calls.get(i), told(typed), told(called));
                rows++;
            }
        }
        Runs.same("README.md: how many texts", rows, 9);
    }

    private static List<String> quoted(String cell) {
        List<String> quoted = new ArrayList<>();
        Matcher part = Pattern.compile("`([^`]*)`").matcher(cell);
        while (part.find()) {
            quoted.add(part.group(1));
        }
        return quoted;
    }

    private static String told(KeyWaves lodge) {
        StringBuilder told = new StringBuilder();
        for (String call : List.of("line(false)", "read()", "line(true)", "read()", "isBarred(0, 1)", "porterOf(3, 0)",
            "account(4)", "account(5)", "account(6)", "account(7)", "account(8)", "account(9)", "account(10)")) {
            told.append(call).append(" = ").append(Runs.answer(lodge, call)).append("; ");
        }
        return told.toString();
    }

    /** The table of the reasons has the words of the document. */
    private static void reasons(String page) {
        String due = new Document().reasons();
        Matcher row = Pattern.compile("\\| ([0-9]+) \\| (.*) \\| (.*) \\|").matcher(page);
        StringBuilder got = new StringBuilder();
        while (row.find()) {
            got.append(got.length() == 0 ? "" : "; ").append(row.group(1)).append(", ").append(row.group(2));
            got.append(row.group(3).equals("0") ? "" : ": " + row.group(3));
        }
        Runs.same("README.md: the reasons", got.toString(), due);
    }

    private static void takeAway(Path directory) throws IOException {
        try (var files = Files.list(directory)) {
            for (Path file : files.toList()) {
                Files.delete(file);
            }
        }
        Files.delete(directory);
    }
}
