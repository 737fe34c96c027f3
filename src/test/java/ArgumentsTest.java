/**
 * Each argument of each method: one too small, one too large, the ends of the range of int, and what is taken at
 * the edge, in a lodge without keys and locks, with two of each, and with ten of each.
 */
final class ArgumentsTest {
    private static final int[] FAR = {Integer.MIN_VALUE, Integer.MIN_VALUE + 1, -65536, -33, -32, -2, -1, 64, 256, 65536,
        Integer.MAX_VALUE - 1, Integer.MAX_VALUE};
    private static final String TWO_AND_TWO = """
        key(3, 2) = 0; key(1, 1) = 1; lock(1) = 0; lock(2) = 1; put(0, 0) = 1; line(false) = 9; save() = 1;
        take(1) = refused 9 1 0; type("s0");
        """;

    public static void main(String[] arguments) {
        farOff();
        farOffWithTwoArguments();
        emptyLodge();
        twoAndTwo();
        tenAndTen();
        whats();
        Runs.end("ArgumentsTest");
    }

    /** Tries a call with each number that is far off in place of "#". */
    private static void far(String promise, String call, String due) {
        for (int number : FAR) {
            String one = (call + " = " + due).replace("#", String.valueOf(number));
            Runs.check(promise + ": a number far off", TWO_AND_TWO + one);
        }
    }

    private static void farOff() {
        far("promise 2", "key(#, 0)", "refused 1 0 0");
        far("promise 2", "key(0, #)", "refused 1 0 0");
        far("promise 3", "lock(#)", "refused 1 0 0");
        far("promise 4", "cut(#, 5)", "refused 3 # 0");
        far("promise 4", "cut(0, #)", "refused 1 0 0");
        far("promise 5", "bar(#, 0, true)", "refused 3 # 0");
        far("promise 5", "bar(0, #, true)", "refused 4 # 0");
        far("promise 6", "slack(#)", "refused 1 0 0");
        far("promise 7", "put(#, 1)", "refused 3 # 0");
        far("promise 7", "put(1, #)", "refused 4 # 0");
        far("promise 8", "take(#)", "refused 3 # 0");
        far("promise 10", "keyOf(#, 0)", "throws IndexOutOfBoundsException");
        far("promise 10", "keyOf(0, #)", "throws IllegalArgumentException");
        far("promise 11", "lockOf(#, 0)", "throws IndexOutOfBoundsException");
        far("promise 11", "lockOf(0, #)", "throws IllegalArgumentException");
        far("promise 12", "fits(#, 0)", "throws IndexOutOfBoundsException");
        far("promise 12", "fits(0, #)", "throws IndexOutOfBoundsException");
        far("promise 13", "isBarred(#, 0)", "throws IndexOutOfBoundsException");
        far("promise 13", "isBarred(0, #)", "throws IndexOutOfBoundsException");
        far("promise 14", "costFor(#, 0)", "throws IndexOutOfBoundsException");
        far("promise 14", "costFor(0, #)", "throws IndexOutOfBoundsException");
        far("promise 15", "cheapest(#, 0)", "throws IndexOutOfBoundsException");
        far("promise 15", "cheapest(0, #)", "throws NoSuchElementException");
        far("promise 22", "canBeOpen(#)", "throws IndexOutOfBoundsException");
        far("promise 23", "isNeeded(#)", "throws IndexOutOfBoundsException");
        far("promise 24", "porterOf(#, 0)", "throws IllegalArgumentException");
        far("promise 24", "porterOf(0, #)", "throws IllegalArgumentException");
        far("promise 25", "ranked(#)", "throws NoSuchElementException");
        far("promise 29", "reason(#)", "throws IllegalArgumentException");
        far("promise 31", "character(#)", "throws IndexOutOfBoundsException");
        far("promise 34", "account(#)", "throws IllegalArgumentException");
    }

    /** Both arguments are wrong: what is listed first is told. */
    private static void farOffWithTwoArguments() {
        far("promise 2: both out of range", "key(#, #)", "refused 1 0 0");
        far("promise 4: 3 before 1", "cut(#, #)", "refused 3 # 0");
        far("promise 5: 3 before 4", "bar(#, #, false)", "refused 3 # 0");
        far("promise 7: 3 before 4", "put(#, #)", "refused 3 # 0");
        far("promise 10: the key first", "keyOf(#, #)", "throws IndexOutOfBoundsException");
        far("promise 11: the lock first", "lockOf(#, #)", "throws IndexOutOfBoundsException");
        far("promise 12: both", "fits(#, #)", "throws IndexOutOfBoundsException");
        far("promise 13: both", "isBarred(#, #)", "throws IndexOutOfBoundsException");
        far("promise 14: both", "costFor(#, #)", "throws IndexOutOfBoundsException");
        far("promise 15: the lock first", "cheapest(#, #)", "throws IndexOutOfBoundsException");
        far("promise 24: both", "porterOf(#, #)", "throws IllegalArgumentException");
    }

    private static void emptyLodge() {
        Runs.check("promises 4 to 8: no key, no lock", """
            cut(0, 0) = refused 3 0 0; bar(0, 0, true) = refused 3 0 0; bar(0, 0, false) = refused 3 0 0;
            put(0, 0) = refused 3 0 0; take(0) = refused 3 0 0
            """);
        Runs.check("promises 5 and 7: a key and no lock", """
            key(0, 0) = 0; bar(0, 0, true) = refused 4 0 0; bar(0, 0, false) = refused 4 0 0; put(0, 0) = refused 4 0 0
            """);
        Runs.check("promises 4 to 8: a lock and no key", """
            lock(0) = 0; cut(0, 0) = refused 3 0 0; bar(0, 0, true) = refused 3 0 0; put(0, 0) = refused 3 0 0;
            take(0) = refused 3 0 0
            """);
        Runs.check("promises 10 to 15: no key, no lock", """
            keyOf(0, 0) = throws IndexOutOfBoundsException; lockOf(0, 0) = throws IndexOutOfBoundsException;
            fits(0, 0) = throws IndexOutOfBoundsException; isBarred(0, 0) = throws IndexOutOfBoundsException;
            costFor(0, 0) = throws IndexOutOfBoundsException; cheapest(0, 0) = throws IndexOutOfBoundsException
            """);
        Runs.check("promises 12 to 15: a key and no lock", """
            key(0, 0) = 0; fits(0, 0) = throws IndexOutOfBoundsException; isBarred(0, 0) = throws
            IndexOutOfBoundsException; costFor(0, 0) = throws IndexOutOfBoundsException; cheapest(0, 0) = throws
            IndexOutOfBoundsException
            """);
        Runs.check("promises 12 to 15: a lock and no key", """
            lock(0) = 0; fits(0, 0) = throws IndexOutOfBoundsException; isBarred(0, 0) = throws
            IndexOutOfBoundsException; costFor(0, 0) = throws IndexOutOfBoundsException; cheapest(0, 0) = throws
            NoSuchElementException
            """);
        Runs.check("promises 22 to 25, 31 to 33: nothing is there", """
            canBeOpen(0) = throws IndexOutOfBoundsException; isNeeded(0) = throws IndexOutOfBoundsException;
            ranked(0) = throws NoSuchElementException; length() = throws NoSuchElementException;
            character(0) = throws IndexOutOfBoundsException; meanFits() = throws ArithmeticException;
            openShare() = throws ArithmeticException; porterOf(0, 0) = 0; porterOf(3, 2) = 0
            """);
        Runs.check("promises 22 and 33: a key and no lock", """
            key(0, 0) = 0; canBeOpen(0) = throws IndexOutOfBoundsException; openShare() = throws ArithmeticException;
            meanFits() = 0.0; isNeeded(0) = false; ranked(0) = 0
            """);
        Runs.check("promises 23, 25 and 32: a lock and no key", """
            lock(0) = 0; isNeeded(0) = throws IndexOutOfBoundsException; ranked(0) = throws NoSuchElementException;
            meanFits() = throws ArithmeticException; openShare() = 0.0; canBeOpen(0) = false
            """);
    }

    private static void twoAndTwo() {
        Runs.check("promises 4 to 8: the number after the last one", TWO_AND_TWO + """
            cut(2, 5) = refused 3 2 0; bar(2, 0, true) = refused 3 2 0; bar(0, 2, true) = refused 4 2 0;
            put(2, 1) = refused 3 2 0; put(1, 2) = refused 4 2 0; take(2) = refused 3 2 0
            """);
        Runs.check("promises 10 to 15, 22, 23 and 25: the number after the last one", TWO_AND_TWO + """
            keyOf(2, 0) = throws IndexOutOfBoundsException; lockOf(2, 0) = throws IndexOutOfBoundsException;
            fits(2, 0) = throws IndexOutOfBoundsException; fits(0, 2) = throws IndexOutOfBoundsException;
            isBarred(2, 1) = throws IndexOutOfBoundsException; isBarred(1, 2) = throws IndexOutOfBoundsException;
            costFor(2, 1) = throws IndexOutOfBoundsException; costFor(1, 2) = throws IndexOutOfBoundsException;
            cheapest(2, 0) = throws IndexOutOfBoundsException; cheapest(1, 2) = throws NoSuchElementException;
            canBeOpen(2) = throws IndexOutOfBoundsException; isNeeded(2) = throws IndexOutOfBoundsException;
            ranked(2) = throws NoSuchElementException; character(9) = throws IndexOutOfBoundsException
            """);
        Runs.check("promises 4 to 8, 10 to 15, 22, 23 and 25: the last one", TWO_AND_TWO + """
            cut(1, 2) = 2; put(1, 1) = 2; take(1) = 1; bar(1, 1, true) = 1; bar(1, 1, false) = 0; keyOf(1, 0) = 2;
            lockOf(1, 0) = 2; fits(1, 1) = true; isBarred(1, 1) = false; costFor(1, 1) = 0; cheapest(1, 1) = 1;
            cheapest(1, 0) = 0; canBeOpen(1) = true; isNeeded(1) = true; ranked(0) = 1; ranked(1) = 0;
            character(0) = 0; character(8) = 1
            """);
    }

    private static void tenAndTen() {
        StringBuilder ten = new StringBuilder();
        for (int number = 0; number < 10; number++) {
            ten.append("key(63, 3) = " + number + "; lock(" + (number == 9 ? 62 : 63) + ") = " + number + "; ");
        }
        Runs.check("promises 2 to 8: ten of each", ten + """
            key(0, 0) = refused 2 10 0; lock(0) = refused 2 10 0; cut(10, 5) = refused 3 10 0;
            bar(10, 9, true) = refused 3 10 0; bar(9, 10, true) = refused 4 10 0; put(10, 9) = refused 3 10 0;
            put(9, 10) = refused 4 10 0; take(10) = refused 3 10 0; take(9) = refused 9 9 0
            """);
        Runs.check("promises 4 to 8: number 9 of ten", ten + """
            bar(9, 9, true) = 1; bar(9, 9, false) = 0; put(9, 9) = 1; put(9, 9) = refused 8 9 0; put(0, 9) = refused 7 9 0;
            take(9) = 9; cut(9, 0) = 6; put(9, 9) = refused 6 5 0; keyOf(9, 0) = 0; keyOf(9, 5) = 6
            """);
        Runs.check("promises 10 to 15, 22, 23 and 25: number 10 of ten", ten + """
            keyOf(10, 0) = throws IndexOutOfBoundsException; lockOf(10, 0) = throws IndexOutOfBoundsException;
            fits(10, 9) = throws IndexOutOfBoundsException; fits(9, 10) = throws IndexOutOfBoundsException;
            isBarred(10, 9) = throws IndexOutOfBoundsException; isBarred(9, 10) = throws IndexOutOfBoundsException;
            costFor(10, 9) = throws IndexOutOfBoundsException; costFor(9, 10) = throws IndexOutOfBoundsException;
            cheapest(10, 0) = throws IndexOutOfBoundsException; cheapest(9, 10) = throws NoSuchElementException;
            canBeOpen(10) = throws IndexOutOfBoundsException; isNeeded(10) = throws IndexOutOfBoundsException;
            ranked(10) = throws NoSuchElementException
            """);
        Runs.check("promises 10 to 15, 22, 23, 25, 32 and 33: number 9 of ten", ten + """
            keyOf(9, 0) = 63; keyOf(9, 1) = 3; keyOf(9, 2) = -1; keyOf(9, 3) = 0; keyOf(9, 4) = 10; keyOf(9, 5) = 0;
            lockOf(9, 0) = 62; lockOf(9, 1) = -1; lockOf(9, 2) = 10; lockOf(9, 3) = 0; fits(9, 9) = true;
            isBarred(9, 9) = false; costFor(9, 9) = 0; cheapest(9, 9) = 9; cheapest(9, 0) = 0; canBeOpen(9) = true;
            isNeeded(9) = true; ranked(9) = 9; ranked(0) = 0; meanFits() = 10.0; openShare() = 0.0; porterOf(3, 0) = 10;
            account(3) = 100
            """);
    }

    /** What a number is told of: the first one, the last one, and one beyond each of them. */
    private static void whats() {
        Runs.check("promise 10: what is from 0 to 5", TWO_AND_TWO + """
            keyOf(0, -1) = throws IllegalArgumentException; keyOf(0, 0) = 3; keyOf(0, 5) = 0; keyOf(0, 6) = throws
            IllegalArgumentException; keyOf(2, 6) = throws IndexOutOfBoundsException; keyOf(-1, -1) = throws
            IndexOutOfBoundsException
            """);
        Runs.check("promise 11: what is from 0 to 3", TWO_AND_TWO + """
            lockOf(0, -1) = throws IllegalArgumentException; lockOf(0, 0) = 1; lockOf(0, 3) = 1; lockOf(0, 4) = throws
            IllegalArgumentException; lockOf(2, 4) = throws IndexOutOfBoundsException; lockOf(-1, -1) = throws
            IndexOutOfBoundsException
            """);
        Runs.check("promise 24: porters 0 to 3, what is from 0 to 2", TWO_AND_TWO + """
            porterOf(-1, 0) = throws IllegalArgumentException; porterOf(0, 0) = 0; porterOf(3, 0) = 0; porterOf(4, 0) =
            throws IllegalArgumentException; porterOf(2, -1) = throws IllegalArgumentException; porterOf(2, 0) = 1;
            porterOf(2, 1) = 1; porterOf(2, 2) = 0; porterOf(2, 3) = throws IllegalArgumentException
            """);
        Runs.check("promise 29: what is from 0 to 2", TWO_AND_TWO + """
            reason(-1) = throws IllegalArgumentException; reason(0) = 9; reason(1) = 1; reason(2) = 0; reason(3) = throws
            IllegalArgumentException
            """);
        Runs.check("promise 29: what is told first, although nothing was refused", """
            reason(-1) = throws IllegalArgumentException; reason(3) = throws IllegalArgumentException; reason(0) = throws
            NoSuchElementException; reason(1) = throws NoSuchElementException; reason(2) = throws NoSuchElementException
            """);
        Runs.check("promise 34: what is from 0 to 11", TWO_AND_TWO + """
            account(-1) = throws IllegalArgumentException; account(0) = 2; account(11) = 2; account(12) = throws
            IllegalArgumentException
            """);
    }
}
