import java.util.ArrayList;
import java.util.List;

/** The five examples of the document, word for word. */
final class ExamplesTest {
    private static final String[] EXAMPLES = {
        """
            key(1, 0) = 0; key(3, 0) = 1; lock(1) = 0; lock(2) = 1; put(1, 0) = 1; length() = 2;
            adds() = 1; wave() = 1; lockOf(0, 1) = 0; lockOf(1, 1) = 1; cover(true) = 0; cover(false) = 3
            """,
        """
            key(1, 0) = 0; key(1, 0) = 1; lock(1) = 0; wave() = 1; most() = 1; isNeeded(0) =
            false; canBeOpen(0) = true; wave() = throws UnsupportedOperationException; reason(0) = 10; reason(1) = 1
            """,
        """
            key(5, 1) = 0; lock(3) = 0; fits(0, 0) = false; costFor(0, 0) = 1; cut(0, 3) = 2; put(0, 0) =
            1; cut(0, 1) = 1; keyOf(0, 2) = -1; account(8) = 1; keyOf(0, 5) = 3
            """,
        """
            wave() = throws UnsupportedOperationException; reason(0) = 10; reason(1) = 0; take(0) = throws
            UnsupportedOperationException; reason(0) = 3
            """,
        """
            append('k') = 1; append('x') = 2; commands() = throws IllegalArgumentException;
            faultPosition() = 1; put(0, 0) = throws UnsupportedOperationException; reason(0) = 3
            """};

    public static void main(String[] arguments) {
        List<String> written = new ArrayList<>();
        for (String example : EXAMPLES) {
            written.add(String.join("; ", Runs.callsOf(example)));
            Runs.check("example " + written.size(), example);
        }
        Runs.same("the examples, word for word", written, new Document().examples());
        Runs.end("ExamplesTest");
    }
}
