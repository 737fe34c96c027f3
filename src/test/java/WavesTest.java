/** Promises 9 and 16 to 23: ways, levels, waves, the most locks, and covers. */
final class WavesTest {
    /** Keys 1 and 2 are in the locks 0 and 1; the only way leads over both to the lock 2. */
    private static final String CHAIN = """
        key(1, 0) = 0; key(3, 0) = 1; key(6, 0) = 2; lock(1) = 0; lock(2) = 1; lock(4) = 2; put(1, 0) = 1;
        put(2, 1) = 2;
        """;

    public static void main(String[] arguments) {
        waves();
        levels();
        orderInWaves();
        lengths();
        counts();
        covers();
        openLocks();
        neededKeys();
        tenAndTen();
        Runs.end("WavesTest");
    }

    private static void waves() {
        Runs.check("promise 9: a chain", CHAIN + """
            wave() = 1; keyOf(0, 2) = 0; keyOf(1, 2) = 1; keyOf(2, 2) = 2; lockOf(0, 1) = 0; lockOf(1, 1) = 1;
            lockOf(2, 1) = 2; lockOf(0, 3) = 2; lockOf(1, 3) = 2; lockOf(2, 3) = 1; account(6) = 1; account(7) = 1;
            account(2) = 3; account(8) = 0; account(10) = 8; wave() = refused 10 3 0; account(6) = 1; account(10) = 8
            """);
        Runs.check("promise 9: refused", """
            wave() = refused 10 0 0; key(1, 0) = 0; wave() = refused 10 0 0; lock(2) = 0; wave() = refused 10 0 0;
            account(6) = 0; account(10) = 2; lock(1) = 1; bar(0, 1, true) = 1; wave() = refused 10 0 0;
            bar(0, 1, false) = 0; wave() = 1; wave() = refused 10 1 0; account(6) = 1; account(7) = 1
            """);
        Runs.check("promise 9: several ways in one wave", """
            key(1, 0) = 0; key(2, 0) = 1; key(4, 0) = 2; lock(4) = 0; lock(2) = 1; lock(1) = 2; wave() = 3;
            keyOf(0, 2) = 2; keyOf(1, 2) = 1; keyOf(2, 2) = 0; account(7) = 3; account(6) = 1; undo() = 6;
            account(2) = 0; account(7) = 0; account(6) = 0
            """);
        Runs.check("promise 9: no keys", "lock(0) = 0; wave() = refused 10 0 0; key(0, 0) = 0; wave() = 1");
    }

    private static void levels() {
        Runs.check("promise 10: levels on a chain", CHAIN + """
            keyOf(0, 3) = 0; keyOf(1, 3) = 1; keyOf(2, 3) = 2; bar(0, 0, true) = 1; keyOf(1, 3) = -1;
            keyOf(2, 3) = -1; keyOf(0, 3) = 0; bar(0, 0, false) = 0; key(4, 0) = 3; keyOf(2, 3) = 2;
            key(2, 0) = 4; keyOf(2, 3) = 1; take(1) = 0; keyOf(1, 3) = 0
            """);
        Runs.check("promise 10: levels beyond the last one are told", """
            key(1, 0) = 0; key(3, 0) = 1; key(2, 0) = 2; lock(1) = 0; lock(2) = 1; lock(1) = 2; put(1, 0) = 1;
            put(2, 1) = 2; keyOf(1, 3) = 1; keyOf(2, 3) = 2; length() = 1
            """);
        Runs.check("promise 10: a key does not give itself a level", """
            key(1, 0) = 0; lock(1) = 0; put(0, 0) = 1; keyOf(0, 3) = -1; key(2, 0) = 1; keyOf(0, 3) = -1;
            cut(1, 1) = 2; keyOf(0, 3) = 1
            """);
    }

    private static void orderInWaves() {
        Runs.check("promise 9: the lowest lock first, the lowest key first", """
            key(3, 0) = 0; key(1, 0) = 1; lock(1) = 0; lock(2) = 1; adds() = 1; waves() = 2; wave() = 1;
            keyOf(0, 2) = 0; keyOf(1, 2) = -1; length() = 2; wave() = 1; keyOf(0, 2) = 1; keyOf(1, 2) = 0;
            lockOf(0, 3) = 2; lockOf(1, 3) = 1; account(6) = 2; account(7) = 2
            """);
        Runs.check("promise 9: two free keys, one lock", """
            key(1, 0) = 0; key(1, 0) = 1; lock(1) = 0; wave() = 1; lockOf(0, 1) = 0; keyOf(1, 2) = -1
            """);
        Runs.check("promise 9: two ways of two keys in one wave", """
            key(1, 0) = 0; key(2, 0) = 1; key(5, 0) = 2; key(10, 0) = 3; lock(1) = 0; lock(2) = 1; lock(4) = 2;
            lock(8) = 3; put(2, 0) = 1; put(3, 1) = 2; length() = 2; adds() = 2; wave() = 2; keyOf(0, 2) = 0;
            keyOf(1, 2) = 1; keyOf(2, 2) = 2; keyOf(3, 2) = 3
            """);
        Runs.check("promise 9: longer ways wait for another wave", """
            key(1, 0) = 0; key(4, 0) = 1; key(3, 0) = 2; lock(1) = 0; lock(2) = 1; lock(4) = 2; put(2, 0) = 1;
            length() = 1; adds() = 1; waves() = 2; wave() = 1; keyOf(1, 2) = 2; keyOf(0, 2) = -1; keyOf(2, 2) = 0;
            length() = 2; wave() = 1; keyOf(0, 2) = 0; keyOf(2, 2) = 1
            """);
        Runs.check("promise 9: a lock with a key above the last level is passed by", """
            key(3, 0) = 0; key(1, 0) = 1; lock(1) = 0; lock(2) = 1; put(1, 0) = 1; wave() = 1; keyOf(0, 2) = 1;
            keyOf(1, 2) = 0; wave() = refused 10 2 0
            """);
        Runs.check("promise 9: a key that has no way is given up, the next lock is tried", """
            key(3, 0) = 0; key(1, 0) = 1; key(6, 0) = 2; lock(1) = 0; lock(2) = 1; lock(4) = 2; put(1, 0) = 1;
            put(2, 1) = 2; length() = 2; wave() = 1; keyOf(0, 2) = 1; keyOf(1, 2) = 0; keyOf(2, 2) = 2; key(1, 0) = 3;
            lock(1) = 3; bar(3, 3, true) = 1;
            adds() = 1; length() = 2; wave() = 1; keyOf(1, 2) = 3; keyOf(3, 2) = 0
            """);
    }

    private static void lengths() {
        Runs.check("promise 16", CHAIN + """
            length() = 3; lock(2) = 3; length() = 2; lock(1) = 4; length() = 1; bar(0, 4, true) = 1; length() = 2;
            bar(1, 3, true) = 2; length() = 2; bar(1, 4, true) = 3; length() = 3; bar(2, 2, true) = 4; length() = 3;
            bar(2, 3, true) = 5; length() = throws NoSuchElementException
            """);
        Runs.check("promise 16: no ways", """
            length() = throws NoSuchElementException; key(1, 0) = 0; length() = throws NoSuchElementException;
            lock(2) = 0; length() = throws NoSuchElementException; lock(1) = 1; length() = 1; wave() = 1;
            length() = throws NoSuchElementException; lock(1) = 2; length() = throws NoSuchElementException;
            key(2, 0) = 1; length() = 1; reason(0) = throws NoSuchElementException
            """);
    }

    private static void counts() {
        Runs.check("promises 17 to 20: nothing is changed", CHAIN + """
            adds() = 1; waves() = 1; most() = 3; mostAgain() = 3; account(2) = 2; account(6) = 0; account(7) = 0;
            account(10) = 8; lockOf(2, 3) = 0; keyOf(1, 2) = 0; wave() = 1; adds() = 0; waves() = 0; most() = 3;
            mostAgain() = 3; reason(0) = throws NoSuchElementException
            """);
        Runs.check("promises 17 to 20: more keys than locks, and more locks than keys", """
            key(7, 0) = 0; key(7, 0) = 1; key(7, 0) = 2; lock(7) = 0; adds() = 1; waves() = 1; most() = 1;
            mostAgain() = 1; lock(3) = 1; lock(1) = 2; lock(1) = 3; lock(8) = 4; adds() = 3; waves() = 1; most() = 3;
            mostAgain() = 3; put(0, 3) = 1; adds() = 2; most() = 3; slack(0) = 1; adds() = 1; most() = 1;
            mostAgain() = 1; waves() = 1
            """);
        Runs.check("promises 17 to 20: two waves", """
            key(3, 0) = 0; key(5, 0) = 1; key(1, 0) = 2; key(4, 0) = 3; lock(1) = 0; lock(4) = 1; lock(2) = 2;
            wave() = 2; keyOf(0, 2) = 0; keyOf(1, 2) = 1; length() = 2; waves() = 1; most() = 3; mostAgain() = 3;
            adds() = 1; undo() = 7; waves() = 2; adds() = 2
            """);
        Runs.check("promises 17 to 20: three waves, each with longer ways", """
            key(3, 0) = 0; key(1, 0) = 1; key(12, 0) = 2; key(24, 0) = 3; key(4, 0) = 4; lock(1) = 0; lock(2) = 1;
            lock(4) = 2; lock(8) = 3; lock(16) = 4; waves() = 3; adds() = 3; most() = 5; mostAgain() = 5; length() = 1;
            wave() = 3; waves() = 2; adds() = 1; most() = 5; length() = 2; wave() = 1; waves() = 1; adds() = 1;
            length() = 3; wave() = 1; waves() = 0; adds() = 0; most() = 5; mostAgain() = 5; account(6) = 3;
            account(7) = 5; keyOf(0, 2) = 1; keyOf(1, 2) = 0; keyOf(2, 2) = 3; keyOf(3, 2) = 4; keyOf(4, 2) = 2
            """);
    }

    private static void covers() {
        Runs.check("promise 21: all keys, or all locks", """
            key(1, 0) = 0; key(1, 0) = 1; key(2, 0) = 2; lock(1) = 0; lock(2) = 1; cover(true) = 1; cover(false) = 4;
            lock(2) = 2; cover(true) = 1; cover(false) = 4; key(2, 0) = 3; key(2, 0) = 4; cover(true) = 7;
            cover(false) = 0; account(2) = 0; account(6) = 0
            """);
        Runs.check("promise 21: the beginning of a way need not lead to an end", """
            key(1, 0) = 0; key(3, 0) = 1; lock(1) = 0; put(1, 0) = 1; cover(true) = 1; cover(false) = 0;
            wave() = refused 10 1 0; key(4, 0) = 2; lock(4) = 1; lock(4) = 2; cover(true) = 1; cover(false) = 4
            """);
        Runs.check("promise 21: it is told as after the waves, not as now", CHAIN + """
            cover(true) = 0; cover(false) = 7; wave() = 1; cover(true) = 0; cover(false) = 7; key(2, 0) = 3;
            cover(true) = 3; cover(false) = 4; cut(3, 4) = 2; cover(true) = 7; cover(false) = 0; bar(3, 2, true) = 1;
            cover(true) = 0; cover(false) = 7
            """);
        Runs.check("promise 21: nothing fits", """
            cover(true) = 0; cover(false) = 0; key(1, 0) = 0; lock(2) = 0; cover(true) = 0; cover(false) = 0
            """);
    }

    private static void openLocks() {
        Runs.check("promise 22", """
            canBeOpen(0) = throws IndexOutOfBoundsException; key(1, 0) = 0; lock(1) = 0; lock(1) = 1; lock(2) = 2;
            canBeOpen(0) = true; canBeOpen(1) = true; canBeOpen(2) = false; put(0, 1) = 1; canBeOpen(0) = true;
            canBeOpen(1) = true; canBeOpen(3) = throws IndexOutOfBoundsException; canBeOpen(-1) = throws
            IndexOutOfBoundsException; bar(0, 0, true) = 1; canBeOpen(0) = false; canBeOpen(1) = true
            """);
    }

    private static void neededKeys() {
        Runs.check("promise 23", """
            isNeeded(0) = throws IndexOutOfBoundsException; key(1, 0) = 0; isNeeded(0) = false; lock(1) = 0;
            isNeeded(0) = true; key(3, 0) = 1; isNeeded(0) = false; isNeeded(1) = false; lock(2) = 1;
            isNeeded(0) = true; isNeeded(1) = true; key(1, 0) = 2; isNeeded(0) = false; isNeeded(1) = true;
            isNeeded(2) = false; put(0, 0) = 1; isNeeded(0) = false; isNeeded(3) = throws IndexOutOfBoundsException;
            isNeeded(-1) = throws IndexOutOfBoundsException; account(2) = 1
            """);
    }

    private static void tenAndTen() {
        StringBuilder calls = new StringBuilder();
        for (int key = 0; key < 10; key++) {
            calls.append("key(63, 0) = ").append(key).append("; lock(").append(key).append(") = ").append(key).append("; ");
        }
        Runs.check("promises 9 and 16 to 23: ten and ten", calls + """
            adds() = 10; waves() = 1; most() = 10; mostAgain() = 10; cover(true) = 0; cover(false) = 1023; wave() = 10;
            lockOf(9, 1) = 9; lockOf(0, 1) = 0; account(7) = 10; isNeeded(4) = true; canBeOpen(9) = true;
            cover(false) = 1023; wave() = refused 10 10 0; openShare() = 1.0; meanFits() = 10.0
            """);
        Runs.check("promises 9 and 16 to 23: one key too many", calls + """
            undo() = 7; most() = 9; mostAgain() = 9; waves() = 1; wave() = 9; keyOf(9, 2) = -1; keyOf(9, 3) = 0;
            keyOf(0, 3) = 1; cover(true) = 511; cover(false) = 0; isNeeded(0) = false; isNeeded(9) = false;
            wave() = refused 10 9 0
            """);
        Runs.check("promises 9 and 16: the longest way", longestChain() + """
            length() = 10; keyOf(9, 3) = 9; keyOf(0, 3) = 0; adds() = 1; wave() = 1; keyOf(9, 2) = 9; keyOf(0, 2) = 0;
            keyOf(5, 2) = 5; lockOf(4, 3) = 2; account(2) = 10; account(7) = 1
            """);
    }

    /** The key k fits the locks k and k - 1 alone, and is in the lock k - 1; all else is barred. */
    private static String longestChain() {
        StringBuilder calls = new StringBuilder();
        int bars = 0;
        for (int number = 0; number < 10; number++) {
            calls.append("key(1, 0) = ").append(number).append("; lock(1) = ").append(number).append("; ");
        }
        for (int key = 0; key < 10; key++) {
            for (int lock = 0; lock < 10; lock++) {
                if (lock != key && lock != key - 1) {
                    bars++;
                    calls.append("bar(" + key + ", " + lock + ", true) = " + bars + "; ");
                }
            }
        }
        for (int key = 1; key < 10; key++) {
            calls.append("put(" + key + ", " + (key - 1) + ") = " + key + "; ");
        }
        return calls.toString();
    }
}
