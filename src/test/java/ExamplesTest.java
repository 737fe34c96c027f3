/** The five examples of the document, word for word. */
final class ExamplesTest {
    public static void main(String[] arguments) {
        Runs.check("example 1", """
            key(1, 0) = 0; key(3, 0) = 1; lock(1) = 0; lock(2) = 1; put(1, 0) = 1; length() = 2;
            adds() = 1; wave() = 1; lockOf(0, 1) = 0; lockOf(1, 1) = 1; cover(true) = 0; cover(false) = 3
            """);
        Runs.check("example 2", """
            key(1, 0) = 0; key(1, 0) = 1; lock(1) = 0; wave() = 1; most() = 1; isNeeded(0) =
            false; canBeOpen(0) = true; wave() = throws UnsupportedOperationException; reason(0) = 10; reason(1) = 1
            """);
        Runs.check("example 3", """
            key(5, 1) = 0; lock(3) = 0; fits(0, 0) = false; costFor(0, 0) = 1; cut(0, 3) = 2; put(0, 0) =
            1; cut(0, 1) = 1; keyOf(0, 2) = -1; account(8) = 1; keyOf(0, 5) = 3
            """);
        Runs.check("example 4", """
            wave() = throws UnsupportedOperationException; reason(0) = 10; reason(1) = 0; take(0) = throws
            UnsupportedOperationException; reason(0) = 3
            """);
        Runs.check("example 5", """
            append('k') = 1; append('x') = 2; commands() = throws IllegalArgumentException;
            faultPosition() = 1; put(0, 0) = throws UnsupportedOperationException; reason(0) = 3
            """);
        Runs.end("ExamplesTest");
    }
}
