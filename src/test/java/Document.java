import java.io.IOException;
import java.nio.file.Files;
import java.nio.file.Path;
import java.util.ArrayList;
import java.util.List;
import java.util.Map;
import java.util.TreeMap;

/** What tests take from ../shared/DOC.md itself: the public face, the method of each promise, and the examples. */
final class Document {
    private static final Path PATH = Path.of("..", "shared", "DOC.md");

    private final List<String> lines;

    Document() {
        try {
            lines = Files.readAllLines(PATH);
        } catch (IOException e) {
            throw new IllegalStateException("a test is run beside ../shared, in the project's directory", e);
        }
    }

    /** The lines from one on up to another one, without the two. */
    private List<String> between(String first, String last) {
        int from = lines.indexOf(first);
        int to = lines.subList(from + 1, lines.size()).indexOf(last);
        if (from < 0 || to < 0) {
            throw new IllegalStateException("there is no part of the document from " + first + " to " + last);
        }
        return lines.subList(from + 1, from + 1 + to);
    }

    /** The constructor and the methods of the public face, without the ";". */
    List<String> face() {
        List<String> face = new ArrayList<>();
        for (String line : between("public final class KeyWaves {", "}")) {
            face.add(line.strip().replace(";", ""));
        }
        return face;
    }

    /** The constructor or the method of each promise, as its first line writes it, by the promise's number. */
    Map<Integer, String> promised() {
        Map<Integer, String> promised = new TreeMap<>();
        for (int i = 0; i + 2 < lines.size(); i++) {
            String heading = lines.get(i);
            if (heading.startsWith("## Promise ")) {
                String written = lines.get(i + 2);
                int number = Integer.parseInt(heading.substring(11, heading.indexOf(':')));
                promised.put(number, written.substring(1, written.indexOf('`', 1)));
            }
        }
        return promised;
    }

    /** The reasons, as in "1, a number is out of range; 2, ...", without the sentences around them. */
    String reasons() {
        String text = String.join(" ", lines).replaceAll("\\s+", " ");
        int from = text.indexOf("1, a number is out of range");
        int to = text.indexOf(". If nothing else is told, the detail is 0.");
        if (from < 0 || to < from) {
            throw new IllegalStateException("there are no reasons in the document");
        }
        return text.substring(from, to);
    }

    /** The runs of the examples, without the titles and the full stops. */
    List<String> examples() {
        List<String> examples = new ArrayList<>();
        StringBuilder run = new StringBuilder();
        String heading = "Examples: Each of them begins with a new object; the results are given behind the calls.";
        for (String line : between(heading, "## Promise 1: A new object")) {
            boolean isFirst = line.matches("[0-9]\\. [A-Z].*");
            if (isFirst && !run.toString().isBlank()) {
                examples.add(run.toString());
                run.setLength(0);
            }
            if (!line.startsWith("```")) {
                run.append(isFirst ? line.substring(line.indexOf(": ") + 2) : line.strip()).append(' ');
            }
        }
        examples.add(run.toString());
        examples.replaceAll(example -> example.replaceAll("\\s+", " ").strip().replaceAll("\\.$", ""));
        return examples;
    }
}
