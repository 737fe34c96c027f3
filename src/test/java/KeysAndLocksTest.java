/** Promises 1 to 8, 10 to 15, 24, 25, 32 and 33: keys, locks and pairs. */
final class KeysAndLocksTest {
    private static final String TEN_KEYS = """
        key(0, 0) = 0; key(1, 1) = 1; key(2, 2) = 2; key(3, 3) = 3; key(4, 0) = 4;
        key(5, 1) = 5; key(6, 2) = 6; key(7, 3) = 7; key(8, 0) = 8; key(63, 1) = 9;
        """;
    private static final String TEN_LOCKS = """
        lock(0) = 0; lock(1) = 1; lock(2) = 2; lock(3) = 3; lock(4) = 4;
        lock(5) = 5; lock(6) = 6; lock(7) = 7; lock(8) = 8; lock(63) = 9;
        """;

    public static void main(String[] arguments) {
        newObject();
        comingKeys();
        comingLocks();
        cutting();
        barring();
        settingSlack();
        putting();
        taking();
        numbersOfKeys();
        numbersOfLocks();
        pairs();
        costs();
        cheapestKeys();
        porters();
        ranks();
        shares();
        Runs.end("KeysAndLocksTest");
    }

    private static void newObject() {
        Runs.check("promise 1", """
            account(0) = 0; account(1) = 0; account(2) = 0; account(3) = 0; account(4) = 0; account(5) = 6;
            account(6) = 0; account(7) = 0; account(8) = 0; account(9) = 0; account(10) = 0; account(11) = 0;
            faultPosition() = -1; reason(0) = throws NoSuchElementException; character(0) = throws
            IndexOutOfBoundsException; undo() = throws IllegalStateException; restore() = throws IllegalStateException;
            line(false) = 0; line(true) = 0; adds() = 0; waves() = 0; most() = 0; mostAgain() = 0; cover(true) = 0;
            cover(false) = 0; porterOf(0, 0) = 0; porterOf(3, 2) = 0; length() = throws NoSuchElementException;
            ranked(0) = throws NoSuchElementException; keyOf(0, 0) = throws IndexOutOfBoundsException;
            lockOf(0, 0) = throws IndexOutOfBoundsException
            """);
    }

    private static void comingKeys() {
        Runs.check("promise 2: wrong inputs", """
            key(-1, 0) = refused 1 0 0; key(64, 0) = refused 1 0 0; key(0, -1) = refused 1 0 0;
            key(0, 4) = refused 1 0 0; key(-2147483648, 0) = refused 1 0 0; key(2147483647, 2147483647) = refused 1 0 0;
            account(0) = 0; account(10) = 0; key(0, 3) = 0; keyOf(0, 1) = 3; account(10) = 1
            """);
        Runs.check("promise 2: ten keys", TEN_KEYS + """
            key(0, 0) = refused 2 10 0; key(64, 0) = refused 1 0 0; key(0, 4) = refused 1 0 0; account(0) = 10;
            keyOf(9, 0) = 63; keyOf(9, 1) = 1; keyOf(10, 0) = throws IndexOutOfBoundsException; keyOf(8, 0) = 8
            """);
    }

    private static void comingLocks() {
        Runs.check("promise 3: wrong inputs", """
            lock(-1) = refused 1 0 0; lock(64) = refused 1 0 0; lock(2147483647) = refused 1 0 0; account(1) = 0;
            lock(63) = 0; lockOf(0, 0) = 63; lock(0) = 1; account(1) = 2; account(10) = 2
            """);
        Runs.check("promise 3: ten locks", TEN_LOCKS + """
            lock(1) = refused 2 10 0; lock(64) = refused 1 0 0; account(1) = 10; lockOf(9, 0) = 63;
            lockOf(10, 0) = throws IndexOutOfBoundsException
            """);
    }

    private static void cutting() {
        Runs.check("promise 4: costs", """
            key(5, 2) = 0; cut(0, 3) = 2; cut(0, 63) = 4; cut(0, 0) = 6; keyOf(0, 0) = 0; keyOf(0, 5) = 12;
            account(9) = 12; porterOf(2, 2) = 12; account(10) = 4
            """);
        Runs.check("promise 4: refused", """
            cut(0, 64) = refused 3 0 0; cut(-1, 1) = refused 3 -1 0; cut(2147483647, 1) = refused 3 2147483647 0;
            key(5, 0) = 0; cut(1, 5) = refused 3 1 0; cut(0, 64) = refused 1 0 0; cut(0, -1) = refused 1 0 0;
            cut(0, 5) = refused 5 0 0; keyOf(0, 0) = 5; keyOf(0, 5) = 0; account(10) = 1
            """);
        Runs.check("promise 4: a key falls out, or stays", """
            key(5, 0) = 0; key(5, 0) = 1; lock(1) = 0; lock(1) = 1; put(0, 0) = 1; put(1, 1) = 2; cut(0, 1) = 1;
            keyOf(0, 2) = 0; account(8) = 0; cut(0, 4) = 2; keyOf(0, 2) = -1; lockOf(0, 1) = -1; keyOf(1, 2) = 1;
            account(8) = 1; account(2) = 1; cut(0, 5) = 1; keyOf(0, 2) = -1
            """);
        Runs.check("promise 4: too many wards for the slack", """
            key(1, 0) = 0; lock(1) = 0; slack(1) = 0; put(0, 0) = 1; cut(0, 3) = 1; keyOf(0, 2) = 0; cut(0, 7) = 1;
            keyOf(0, 2) = -1; account(8) = 1
            """);
    }

    private static void barring() {
        Runs.check("promise 5: pairs", """
            key(1, 0) = 0; key(1, 0) = 1; lock(1) = 0; lock(1) = 1; bar(0, 1, true) = 1; bar(1, 0, true) = 2;
            bar(1, 1, true) = 3; isBarred(0, 0) = false; isBarred(0, 1) = true; isBarred(1, 0) = true;
            bar(1, 0, false) = 2; isBarred(1, 0) = false; account(4) = 2; fits(0, 1) = false; fits(1, 0) = true;
            bar(0, 1, false) = 1; fits(0, 1) = true; account(10) = 8
            """);
        Runs.check("promise 5: refused", """
            bar(0, 0, true) = refused 3 0 0; bar(-3, 0, true) = refused 3 -3 0; key(1, 0) = 0;
            bar(0, 0, true) = refused 4 0 0; lock(1) = 0; bar(1, 5, true) = refused 3 1 0;
            bar(0, 1, true) = refused 4 1 0; bar(0, -7, false) = refused 4 -7 0; bar(0, 0, false) = refused 5 0 0;
            bar(0, 0, true) = 1; bar(0, 0, true) = refused 5 0 0; account(4) = 1; account(10) = 3
            """);
        Runs.check("promise 5: the key falls out", """
            key(1, 0) = 0; key(1, 0) = 1; lock(1) = 0; lock(1) = 1; put(0, 0) = 1; put(1, 1) = 2;
            bar(0, 1, true) = 1; account(8) = 0; bar(0, 0, true) = 2; account(8) = 1; keyOf(0, 2) = -1;
            lockOf(0, 1) = -1; lockOf(1, 1) = 1; bar(0, 0, false) = 1; keyOf(0, 2) = -1
            """);
    }

    private static void settingSlack() {
        Runs.check("promise 6: keys fall out", """
            key(1, 0) = 0; key(3, 0) = 1; key(7, 0) = 2; lock(1) = 0; lock(1) = 1; lock(1) = 2; put(0, 0) = 1;
            put(1, 1) = 2; put(2, 2) = 3; slack(2) = 0; account(5) = 2; slack(0) = 2; keyOf(0, 2) = 0;
            keyOf(1, 2) = -1; keyOf(2, 2) = -1; account(8) = 2; account(2) = 1; slack(6) = 0; account(8) = 2;
            account(2) = 1
            """);
        Runs.check("promise 6: refused", """
            slack(-1) = refused 1 0 0; slack(7) = refused 1 0 0; slack(6) = refused 5 0 0; slack(0) = 0;
            slack(0) = refused 5 0 0; account(5) = 0; account(10) = 1; slack(6) = 0; account(10) = 2
            """);
    }

    private static void putting() {
        Runs.check("promise 7: ordinary", """
            key(1, 0) = 0; key(3, 0) = 1; lock(1) = 0; lock(2) = 1; put(1, 1) = 1; put(0, 0) = 2; keyOf(1, 2) = 1;
            lockOf(0, 1) = 0; account(2) = 2; account(10) = 6
            """);
        Runs.check("promise 7: refused", """
            put(4, 9) = refused 3 4 0; key(1, 0) = 0; put(0, 4) = refused 4 4 0; put(1, 0) = refused 3 1 0;
            put(-1, -1) = refused 3 -1 0; put(0, -1) = refused 4 -1 0; lock(1) = 0; lock(62) = 1;
            put(0, 1) = refused 6 5 0; put(0, 0) = 1; put(0, 0) = refused 8 0 0; put(0, 1) = refused 8 0 0;
            key(3, 0) = 1; put(1, 0) = refused 7 0 0; key(0, 0) = 2; put(2, 0) = refused 7 0 0; lock(0) = 2;
            put(1, 2) = 2; put(0, 2) = refused 8 0 0; put(1, 0) = refused 8 2 0; put(2, 2) = refused 7 1 0;
            account(10) = 8
            """);
        Runs.check("promise 7: what does not fit has a detail", """
            key(7, 0) = 0; lock(1) = 0; lock(25) = 1; slack(1) = 0; put(0, 0) = refused 6 0 0;
            put(0, 1) = refused 6 2 0; bar(0, 0, true) = 1; slack(6) = 0; put(0, 0) = refused 6 0 0;
            bar(0, 1, true) = 2; put(0, 1) = refused 6 2 0
            """);
    }

    private static void taking() {
        Runs.check("promise 8", """
            take(0) = refused 3 0 0; take(-5) = refused 3 -5 0; key(1, 0) = 0; key(1, 0) = 1; take(1) = refused 9 1 0;
            lock(2) = 0; lock(1) = 1; put(1, 1) = 1; take(1) = 1; keyOf(1, 2) = -1; lockOf(1, 1) = -1; account(2) = 0;
            account(8) = 0; take(1) = refused 9 1 0; put(0, 1) = 1; take(0) = 1; account(10) = 8;
            take(2) = refused 3 2 0
            """);
    }

    private static void numbersOfKeys() {
        Runs.check("promise 10", """
            key(5, 2) = 0; key(7, 1) = 1; lock(1) = 0; lock(6) = 1; lock(4) = 2; put(0, 2) = 1;
            keyOf(0, 0) = 5; keyOf(0, 1) = 2; keyOf(0, 2) = 2; keyOf(0, 3) = 1; keyOf(0, 4) = 2; keyOf(0, 5) = 0;
            keyOf(1, 0) = 7; keyOf(1, 1) = 1; keyOf(1, 2) = -1; keyOf(1, 3) = 0; keyOf(1, 4) = 3;
            cut(1, 2) = 2; keyOf(1, 5) = 2; keyOf(0, 3) = -1; keyOf(0, 5) = 0; cut(1, 6) = 1; keyOf(1, 5) = 3;
            keyOf(1, 4) = 2; keyOf(0, 3) = 1
            """);
        Runs.check("promise 10: wrong inputs", """
            keyOf(0, 9) = throws IndexOutOfBoundsException; key(5, 2) = 0; keyOf(0, 6) = throws
            IllegalArgumentException; keyOf(0, -1) = throws IllegalArgumentException; keyOf(1, 6) = throws
            IndexOutOfBoundsException; keyOf(-1, 0) = throws IndexOutOfBoundsException;
            keyOf(-2147483648, 0) = throws IndexOutOfBoundsException; keyOf(0, 2147483647) = throws
            IllegalArgumentException; reason(0) = throws NoSuchElementException
            """);
    }

    private static void numbersOfLocks() {
        Runs.check("promise 11", """
            key(5, 2) = 0; key(7, 1) = 1; lock(1) = 0; lock(6) = 1; lock(4) = 2; put(0, 2) = 1;
            lockOf(0, 0) = 1; lockOf(1, 0) = 6; lockOf(2, 0) = 4; lockOf(2, 1) = 0; lockOf(1, 1) = -1;
            lockOf(0, 2) = 2; lockOf(1, 2) = 1; lockOf(2, 2) = 2; lockOf(2, 3) = 1; lockOf(0, 3) = 0;
            take(0) = 2; lockOf(2, 3) = 1; put(1, 2) = 1; lockOf(2, 3) = 2; lockOf(2, 1) = 1;
            bar(1, 2, true) = 1; lockOf(2, 2) = 1; lockOf(2, 3) = 2; put(1, 1) = 1; wave() = 1; lockOf(0, 1) = 0;
            lockOf(0, 3) = 1; lockOf(2, 3) = 2; lockOf(1, 3) = 1
            """);
        Runs.check("promise 11: texts and ways count", """
            key(1, 0) = 0; key(3, 0) = 1; lock(1) = 0; lock(2) = 1; type("p10;t1;p10"); commands() = 3;
            lockOf(0, 3) = 2; wave() = 1; lockOf(0, 3) = 3; lockOf(1, 3) = 1
            """);
        Runs.check("promise 11: wrong inputs", """
            lockOf(0, 9) = throws IndexOutOfBoundsException; lock(5) = 0; lockOf(0, 4) = throws
            IllegalArgumentException; lockOf(0, -1) = throws IllegalArgumentException; lockOf(1, 4) = throws
            IndexOutOfBoundsException; lockOf(-1, 0) = throws IndexOutOfBoundsException; lockOf(2147483647, 0) = throws
            IndexOutOfBoundsException
            """);
    }

    private static void pairs() {
        Runs.check("promise 12", """
            key(0, 0) = 0; key(5, 0) = 1; key(63, 0) = 2; lock(0) = 0; lock(5) = 1; lock(63) = 2;
            fits(0, 0) = true; fits(0, 1) = false; fits(0, 2) = false; fits(1, 0) = true; fits(1, 1) = true;
            fits(1, 2) = false; fits(2, 0) = true; fits(2, 1) = true; fits(2, 2) = true;
            slack(5) = 0; fits(2, 0) = false; fits(2, 1) = true; slack(4) = 0; fits(2, 1) = true;
            slack(3) = 0; fits(2, 1) = false; fits(2, 2) = true; slack(2) = 0; fits(1, 0) = true;
            slack(1) = 0; fits(1, 0) = false; slack(0) = 0; fits(0, 0) = true; fits(1, 1) = true;
            bar(1, 1, true) = 1; fits(1, 1) = false; fits(2, 2) = true
            """);
        Runs.check("promise 12: wrong inputs", """
            fits(0, 0) = throws IndexOutOfBoundsException; key(1, 0) = 0; fits(0, 0) = throws
            IndexOutOfBoundsException; lock(1) = 0; fits(0, 0) = true; fits(1, 0) = throws IndexOutOfBoundsException;
            fits(0, 1) = throws IndexOutOfBoundsException; fits(-1, 0) = throws IndexOutOfBoundsException;
            fits(0, -1) = throws IndexOutOfBoundsException; fits(32, 0) = throws IndexOutOfBoundsException
            """);
        Runs.check("promise 13", """
            isBarred(0, 0) = throws IndexOutOfBoundsException; key(1, 0) = 0; isBarred(0, 0) = throws
            IndexOutOfBoundsException; lock(2) = 0; isBarred(0, 0) = false; bar(0, 0, true) = 1;
            isBarred(0, 0) = true; isBarred(0, 1) = throws IndexOutOfBoundsException; isBarred(1, 0) = throws
            IndexOutOfBoundsException; isBarred(-1, 0) = throws IndexOutOfBoundsException; isBarred(0, -1) = throws
            IndexOutOfBoundsException; isBarred(0, 32) = throws IndexOutOfBoundsException; bar(0, 0, false) = 0;
            isBarred(0, 0) = false; lock(3) = 1; isBarred(0, 1) = false
            """);
    }

    private static void costs() {
        Runs.check("promise 14", """
            key(63, 0) = 0; key(6, 0) = 1; key(0, 0) = 2; lock(0) = 0; lock(1) = 1; lock(7) = 2; lock(63) = 3;
            costFor(0, 0) = 0; costFor(1, 1) = 1; costFor(2, 3) = 6; costFor(1, 3) = 4; costFor(0, 3) = 0;
            slack(0) = 0; costFor(0, 0) = 6; costFor(0, 1) = 5; costFor(0, 2) = 3; costFor(0, 3) = 0;
            costFor(1, 0) = 2; costFor(1, 1) = 3; costFor(1, 2) = 1; costFor(2, 0) = 0; costFor(2, 1) = 1;
            slack(1) = 0; costFor(0, 0) = 5; costFor(1, 1) = 2; costFor(1, 0) = 1; bar(1, 1, true) = 1;
            costFor(1, 1) = 2; costFor(0, 3) = 0; bar(0, 3, true) = 2; costFor(0, 3) = 0
            """);
        Runs.check("promise 14: wrong inputs", """
            costFor(0, 0) = throws IndexOutOfBoundsException; key(1, 0) = 0; costFor(0, 0) = throws
            IndexOutOfBoundsException; lock(2) = 0; costFor(0, 0) = 1; costFor(1, 0) = throws
            IndexOutOfBoundsException; costFor(0, 1) = throws IndexOutOfBoundsException; costFor(-1, 0) = throws
            IndexOutOfBoundsException; costFor(0, -1) = throws IndexOutOfBoundsException
            """);
    }

    private static void cheapestKeys() {
        Runs.check("promise 15", """
            key(0, 0) = 0; key(3, 0) = 1; key(1, 0) = 2; key(3, 0) = 3; key(2, 0) = 4; lock(3) = 0;
            cheapest(0, 0) = 1; cheapest(0, 1) = 3; cheapest(0, 2) = 2; cheapest(0, 3) = 4; cheapest(0, 4) = 0;
            cheapest(0, 5) = throws NoSuchElementException; bar(1, 0, true) = 1; cheapest(0, 0) = 3;
            cheapest(0, 1) = 2; cheapest(0, 3) = 0; cheapest(0, 4) = throws NoSuchElementException;
            cheapest(0, -1) = throws NoSuchElementException; cheapest(1, 0) = throws IndexOutOfBoundsException;
            cheapest(1, -1) = throws IndexOutOfBoundsException; cheapest(-1, 99) = throws IndexOutOfBoundsException
            """);
        Runs.check("promise 15: the first key, and the slack", """
            key(1, 0) = 0; key(0, 0) = 1; key(63, 0) = 2; key(1, 0) = 3; lock(1) = 0; cheapest(0, 0) = 0;
            cheapest(0, 1) = 2; cheapest(0, 2) = 3; cheapest(0, 3) = 1; slack(0) = 0; cheapest(0, 0) = 0;
            cheapest(0, 1) = 3; cheapest(0, 2) = 1; cheapest(0, 3) = 2; slack(4) = 0; cheapest(0, 2) = 1
            """);
        Runs.check("promise 15: no keys", """
            cheapest(0, 0) = throws IndexOutOfBoundsException; lock(0) = 0; cheapest(0, 0) = throws
            NoSuchElementException; key(63, 0) = 0; cheapest(0, 0) = 0; cheapest(0, 1) = throws NoSuchElementException
            """);
    }

    private static void porters() {
        Runs.check("promise 24", """
            key(1, 0) = 0; key(1, 3) = 1; key(1, 3) = 2; key(1, 3) = 3; lock(1) = 0; lock(1) = 1; lock(1) = 2;
            put(0, 0) = 1; put(1, 1) = 2; put(3, 2) = 3; porterOf(0, 0) = 1; porterOf(1, 0) = 0; porterOf(2, 0) = 0;
            porterOf(3, 0) = 3; porterOf(0, 1) = 1; porterOf(1, 1) = 0; porterOf(3, 1) = 2; porterOf(3, 2) = 0;
            cut(1, 3) = 1; cut(2, 62) = 6; porterOf(3, 2) = 7; porterOf(0, 2) = 0; cut(1, 0) = 2; porterOf(3, 1) = 1;
            porterOf(3, 2) = 9; cut(0, 3) = 1; porterOf(0, 2) = 1; porterOf(3, 2) = 9
            """);
        Runs.check("promise 24: wrong inputs", """
            porterOf(-1, 0) = throws IllegalArgumentException; porterOf(4, 0) = throws IllegalArgumentException;
            porterOf(0, 3) = throws IllegalArgumentException; porterOf(0, -1) = throws IllegalArgumentException;
            porterOf(3, 0) = 0
            """);
    }

    private static void ranks() {
        Runs.check("promise 25", """
            key(1, 0) = 0; key(3, 0) = 1; key(0, 0) = 2; key(3, 0) = 3; key(8, 0) = 4; key(24, 0) = 5;
            ranked(0) = 1; ranked(1) = 3; ranked(2) = 5; ranked(3) = 0; ranked(4) = 4; ranked(5) = 2;
            lock(1) = 0; lock(2) = 1; ranked(0) = 5; ranked(1) = 4; ranked(2) = 2; ranked(3) = 0; ranked(4) = 1;
            ranked(5) = 3; ranked(6) = throws NoSuchElementException; ranked(-1) = throws NoSuchElementException;
            bar(3, 0, true) = 1; bar(3, 1, true) = 2; ranked(0) = 3; ranked(1) = 5; ranked(5) = 1
            """);
        Runs.check("promise 25: no keys", """
            ranked(0) = throws NoSuchElementException; key(1, 0) = 0; ranked(0) = 0; ranked(1) = throws
            NoSuchElementException
            """);
    }

    private static void shares() {
        Runs.check("promise 32", """
            meanFits() = throws ArithmeticException; lock(1) = 0; meanFits() = throws ArithmeticException;
            key(1, 0) = 0; meanFits() = 1.0; key(2, 0) = 1; meanFits() = 0.5; key(4, 0) = 2;
            meanFits() = 0.3333333333333333; lock(0) = 1; meanFits() = 1.3333333333333333; bar(0, 0, true) = 1;
            meanFits() = 1.0; bar(0, 1, true) = 2; meanFits() = 0.6666666666666666
            """);
        Runs.check("promise 33", """
            openShare() = throws ArithmeticException; key(1, 0) = 0; openShare() = throws ArithmeticException;
            lock(1) = 0; openShare() = 0.0; put(0, 0) = 1; openShare() = 1.0; lock(1) = 1; openShare() = 0.5;
            lock(1) = 2; openShare() = 0.33333334; key(1, 0) = 1; put(1, 2) = 2; openShare() = 0.6666667
            """);
    }
}
