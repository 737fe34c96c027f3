/** Promises 30, 31 and 34 to 37: the line, accounts, undo, and the snapshot. */
final class AccountsTest {
    public static void main(String[] arguments) {
        lines();
        accounts();
        undoing();
        undoingEach();
        saving();
        Runs.end("AccountsTest");
    }

    private static void lines() {
        KeyWaves lodge = new KeyWaves();
        Runs.on(lodge, "promise 31: empty at first", """
            character(0) = throws IndexOutOfBoundsException; character(-1) = throws IndexOutOfBoundsException;
            line(false) = 0; key(5, 0) = 0; key(63, 1) = 1; lock(0) = 0; lock(63) = 1; lock(4) = 2; put(0, 2) = 1
            """);
        line(lodge, false, "0#5-2 1#63");
        line(lodge, true, "0#0 1#63 2#4-0");
        Runs.on(lodge, "promise 30", "put(1, 1) = 2; character(7) = 3; character(14) = throws IndexOutOfBoundsException");
        line(lodge, false, "0#5-2 1#63-1");
        line(lodge, true, "0#0 1#63-1 2#4-0");
        Runs.on(lodge, "promise 31: the line stays", "undo() = 6; character(8) = -; save() = 1; restore() = 1");
        Runs.on(lodge, "promise 31: after restore", "character(9) = 1; line(true) = 14");
        line(lodge, true, "0#0 1#63 2#4-0");
        KeyWaves full = new KeyWaves();
        StringBuilder due = new StringBuilder();
        for (int number = 0; number < 10; number++) {
            Runs.on(full, "promise 30", "key(63, 0) = " + number + "; lock(63) = " + number);
            due.append(number == 0 ? "" : " ").append(number).append("#63-").append(number);
        }
        Runs.on(full, "promise 30", "wave() = 10; line(true) = 69");
        line(full, false, due.toString());
        line(full, true, due.toString());
        line(new KeyWaves(), true, "");
        KeyWaves digits = new KeyWaves();
        Runs.on(digits, "promise 30", "key(10, 0) = 0; key(9, 0) = 1; key(20, 0) = 2; lock(11) = 0");
        line(digits, false, "0#10 1#9 2#20");
        line(digits, true, "0#11");
    }

    private static void line(KeyWaves lodge, boolean isLocks, String due) {
        Runs.on(lodge, "promise 30", "line(" + isLocks + ") = " + due.length());
        StringBuilder got = new StringBuilder();
        for (int index = 0; index < due.length(); index++) {
            got.append(Runs.use(lodge).character(index));
        }
        Runs.same("promise 31", got.toString(), due);
        Runs.on(lodge, "promise 31", """
            character(-1) = throws IndexOutOfBoundsException; character(2147483647) = throws
            IndexOutOfBoundsException; character(""" + due.length() + ") = throws IndexOutOfBoundsException");
    }

    private static void accounts() {
        Runs.check("promise 34", """
            key(1, 0) = 0; key(3, 1) = 1; key(8, 2) = 2; lock(1) = 0; lock(2) = 1; put(1, 0) = 1; account(0) = 3;
            account(1) = 2; account(2) = 1; account(3) = 3; account(4) = 0; account(10) = 6; bar(2, 0, true) = 1;
            bar(2, 1, true) = 2; account(4) = 2; account(3) = 3; account(5) = 6; slack(1) = 0; account(5) = 1;
            account(10) = 8; wave() = 1; account(6) = 1; account(7) = 1; account(2) = 2; account(10) = 8;
            cut(2, 63) = 5; cut(1, 1) = 1; account(8) = 1; account(9) = 6; bar(0, 0, true) = 3; account(8) = 2;
            account(2) = 0; append('w') = 1; account(11) = 1; account(3) = 1; wave() = 1; account(6) = 2;
            account(7) = 2; take(1) = 0; account(8) = 2
            """);
        Runs.check("promise 34: wrong inputs", """
            account(-1) = throws IllegalArgumentException; account(12) = throws IllegalArgumentException;
            account(2147483647) = throws IllegalArgumentException; account(-2147483648) = throws
            IllegalArgumentException; account(11) = 0
            """);
    }

    private static void undoing() {
        Runs.check("promise 35: the latest eight", """
            undo() = throws IllegalStateException; lock(0) = 0; lock(1) = 1; lock(2) = 2; lock(3) = 3; lock(4) = 4;
            lock(5) = 5; lock(6) = 6; account(10) = 7; lock(7) = 7; account(10) = 8; lock(8) = 8; account(10) = 8;
            lock(9) = 9; account(10) = 8; undo() = 7; account(1) = 9; account(10) = 7; undo() = 6; account(1) = 8;
            undo() = 5; account(1) = 7; undo() = 4; account(1) = 6; undo() = 3; lockOf(4, 0) = 4; account(1) = 5;
            undo() = 2; account(1) = 4; undo() = 1; account(1) = 3; undo() = 0; account(1) = 2; lockOf(1, 0) = 1;
            lockOf(2, 0) = throws IndexOutOfBoundsException; undo() = throws IllegalStateException; account(1) = 2; lock(33) = 2; lockOf(2, 0) = 33; account(10) = 1; undo() = 0;
            account(1) = 2
            """);
        Runs.check("promise 35: what is refused cannot be undone", """
            key(1, 0) = 0; key(64, 0) = refused 1 0 0; lock(1) = 0; put(0, 1) = refused 4 1 0; wave() = 1;
            wave() = refused 10 1 0; take(1) = refused 3 1 0; type("t0;t0"); commands() = refused 9 0 1; account(10) = 3;
            account(2) = 1; undo() = 2; account(2) = 0; reason(0) = 9; undo() = 1; account(1) = 0; undo() = 0;
            account(0) = 0
            """);
        Runs.check("promise 35: a refused call does not push out the oldest", """
            lock(0) = 0; lock(1) = 1; lock(2) = 2; lock(3) = 3; lock(4) = 4; lock(5) = 5; lock(6) = 6; lock(7) = 7;
            lock(64) = refused 1 0 0; wave() = refused 10 0 0; undo() = 7; undo() = 6; undo() = 5; undo() = 4;
            undo() = 3; undo() = 2; undo() = 1; account(1) = 1; undo() = 0; account(1) = 0
            """);
        Runs.check("promise 35: what stays", """
            key(1, 0) = 0; line(false) = 3; append('w') = 1; take(0) = refused 9 0 0; undo() = 0; account(11) = 1;
            character(2) = 1; reason(0) = 9; line(false) = 0; undo() = throws IllegalStateException
            """);
    }

    private static void undoingEach() {
        Runs.check("promise 35: each change", """
            key(3, 0) = 0; key(1, 0) = 1; lock(1) = 0; lock(1) = 1; put(0, 0) = 1; undo() = 4; keyOf(0, 2) = -1;
            lockOf(0, 3) = 0; lockOf(0, 1) = -1; put(0, 0) = 1; cut(0, 2) = 1; account(8) = 1; undo() = 5;
            keyOf(0, 2) = 0; keyOf(0, 0) = 3; account(8) = 0; account(9) = 0; keyOf(0, 5) = 0; bar(0, 0, true) = 1;
            undo() = 5; isBarred(0, 0) = false; lockOf(0, 1) = 0; account(8) = 0; slack(0) = 1; account(8) = 1;
            undo() = 5; account(5) = 6; account(8) = 0; keyOf(0, 2) = 0; take(0) = 0; undo() = 5; keyOf(0, 2) = 0;
            wave() = 1; undo() = 5; account(6) = 0; account(7) = 0; keyOf(1, 2) = -1; lockOf(1, 3) = 0;
            type("w;t0"); commands() = 2; account(10) = 6; undo() = 5; account(2) = 1; account(6) = 0
            """);
    }

    private static void saving() {
        Runs.check("promises 36 and 37", """
            restore() = throws IllegalStateException; save() = 0; key(3, 0) = 0; lock(1) = 0; lock(2) = 1; put(0, 0) = 1;
            account(10) = 4; restore() = 0; account(0) = 0; account(10) = 0; undo() = throws IllegalStateException;
            key(3, 2) = 0; lock(1) = 0; lock(2) = 1; put(0, 1) = 1; save() = 1; account(10) = 4; cut(0, 1) = 1;
            account(8) = 1; slack(3) = 0; bar(0, 0, true) = 1; restore() = 1; keyOf(0, 0) = 3; keyOf(0, 1) = 2;
            keyOf(0, 2) = 1; account(4) = 0; account(5) = 6; account(8) = 0; account(9) = 0; account(10) = 0;
            lockOf(1, 3) = 1; take(0) = 1; account(10) = 1; restore() = 1; keyOf(0, 2) = 1; account(10) = 0
            """);
        Runs.check("promise 36: an earlier snapshot is replaced, undo leaves it alone", """
            lock(1) = 0; save() = 0; lock(2) = 1; save() = 0; undo() = 1; undo() = 0; account(1) = 0; restore() = 0;
            account(1) = 2; lockOf(1, 0) = 2; undo() = throws IllegalStateException
            """);
        Runs.check("promise 36: each key and lock is saved", """
            key(1, 2) = 0; lock(1) = 0; bar(0, 0, true) = 1; cut(0, 3) = 1; save() = 0; undo() = 3; undo() = 2;
            undo() = 1; undo() = 0; lock(4) = 0; key(5, 1) = 0; put(0, 0) = 1; cut(0, 4) = 1; cut(0, 12) = 1;
            restore() = 0; keyOf(0, 0) = 3; keyOf(0, 1) = 2; porterOf(2, 0) = 1; porterOf(1, 0) = 0; keyOf(0, 2) = -1;
            keyOf(0, 5) = 1; lockOf(0, 0) = 1; lockOf(0, 1) = -1; lockOf(0, 3) = 0; isBarred(0, 0) = true
            """);
        Runs.check("promise 36: waves and counters are saved", """
            key(1, 0) = 0; lock(1) = 0; wave() = 1; save() = 1; take(0) = 0; wave() = 1; account(6) = 2;
            lockOf(0, 3) = 2; restore() = 1; account(6) = 1; account(7) = 1; lockOf(0, 3) = 1
            """);
        Runs.check("promise 37: what stays", """
            save() = 0; key(1, 0) = 0; line(false) = 3; append('l') = 1; take(0) = refused 9 0 0; restore() = 0;
            account(11) = 1; character(0) = 0; reason(0) = 9; append('5') = 2; commands() = 1; lockOf(0, 0) = 5;
            restore() = 0; account(1) = 0; key(-1, 0) = refused 1 0 0; save() = 0; account(10) = 0
            """);
    }
}
