/** Promises 26 to 29: the text buffer, its commands, faults, and reasons. */
final class TextsTest {
    public static void main(String[] arguments) {
        appending();
        commands();
        severalCommands();
        refusedCommands();
        faults();
        reasons();
        Runs.end("TextsTest");
    }

    private static void appending() {
        KeyWaves lodge = new KeyWaves();
        for (int length = 1; length <= 60; length++) {
            Runs.on(lodge, "promise 26", "append('w') = " + length + "; account(11) = " + length);
        }
        Runs.on(lodge, "promise 26: full", """
            append('w') = throws IllegalStateException; account(11) = 60; append(59) = throws IllegalStateException;
            commands() = throws IllegalArgumentException; faultPosition() = 1; account(11) = 0; append(0) = 1;
            append(255) = 2; account(11) = 2; account(10) = 0; undo() = throws IllegalStateException
            """);
    }

    private static void commands() {
        Runs.check("promise 27: each command", """
            type("k5/3"); commands() = 1; keyOf(0, 0) = 5; keyOf(0, 1) = 3; type("k63/0"); commands() = 1;
            keyOf(1, 0) = 63; type("l1"); commands() = 1; lockOf(0, 0) = 1; type("l07"); commands() = 1;
            lockOf(1, 0) = 7; type("c0/4"); commands() = 1; keyOf(0, 0) = 4; type("c0/13"); commands() = 1;
            keyOf(0, 0) = 13; keyOf(0, 5) = 3; type("b10"); commands() = 1; isBarred(1, 0) = true;
            isBarred(0, 1) = false; type("u10"); commands() = 1; account(4) = 0; type("p11"); commands() = 1;
            lockOf(1, 1) = 1; type("t1"); commands() = 1; account(2) = 0; type("s2"); commands() = 1; account(5) = 2;
            type("w"); commands() = 1; account(2) = 1; lockOf(0, 1) = 0; account(10) = 8; faultPosition() = -1;
            reason(0) = throws NoSuchElementException; account(11) = 0
            """);
    }

    private static void severalCommands() {
        Runs.check("promise 27: several commands are one change", """
            type("k3/0;k1/1;l1;l2;p00;w;t1;s0;c1/2;b11"); commands() = 10; account(10) = 1; account(0) = 2;
            account(1) = 2; keyOf(1, 0) = 2; account(9) = 2; account(5) = 0; account(6) = 1; account(4) = 1;
            isBarred(1, 1) = true; undo() = 0; account(0) = 0; account(1) = 0; account(9) = 0; account(5) = 6;
            account(6) = 0; account(11) = 0
            """);
        Runs.check("promise 27: twenty commands are one change", """
            key(1, 0) = 0; type("s0;s1;s0;s1;s0;s1;s0;s1;s0;s1;s0;s1;s0;s1;s0;s1;s0;s1;s0;s5"); commands() = 20;
            account(5) = 5; account(10) = 2; undo() = 1; account(5) = 6
            """);
    }

    private static void refusedCommands() {
        Runs.check("promise 27: all or none", """
            key(1, 0) = 0; lock(1) = 0; type("p00;c0/2;k1/1;l3;s3;b00;t0"); commands() = throws
            UnsupportedOperationException; reason(0) = 9; reason(1) = 0; reason(2) = 6; account(0) = 1;
            account(1) = 1; account(5) = 6; account(4) = 0; account(2) = 0; account(8) = 0; account(9) = 0;
            lockOf(0, 3) = 0; keyOf(0, 0) = 1; account(10) = 2; account(11) = 0; faultPosition() = -1; undo() = 1
            """);
        Runs.check("promise 27: a refused wave", """
            type("k1/0;l1;w;w"); commands() = refused 10 1 3; account(0) = 0; account(6) = 0; account(7) = 0;
            account(10) = 0; type("w"); commands() = refused 10 0 0; type("k1/0;l1;w"); commands() = 3; account(6) = 1
            """);
        Runs.check("promise 27: numbers out of range are refused", """
            type("k64/0"); commands() = refused 1 0 0; faultPosition() = -1; type("l1;k1/4"); commands() = refused 1 0 1;
            type("l99"); commands() = refused 1 0 0; type("s7"); commands() = refused 1 0 0; type("s6"); commands() =
            refused 5 0 0; type("k1/0;c0/70"); commands() = refused 1 0 1; type("k1/0;c1/70"); commands() =
            refused 3 1 1; type("t9"); commands() = refused 3 9 0; type("k1/0;p09"); commands() = refused 4 9 1;
            type("k1/0;l2;p00"); commands() = refused 6 1 2; type("k1/0;l1;u00"); commands() = refused 5 0 2;
            type("k1/0;l1;p00;p00"); commands() = refused 8 0 3; type("k1/0;k1/0;l1;p00;p10"); commands() =
            refused 7 0 4; type("k0/0;k0/0;k0/0;k0/0;k0/0;k0/0;k0/0;k0/0;k0/0;k0/0;k0/0"); commands() = refused 2 10 10;
            type("l0;l0;l0;l0;l0;l0;l0;l0;l0;l0;l0;"); commands() = throws IllegalArgumentException;
            type("l0;l0;l0;l0;l0;l0;l0;l0;l0;l0;l0"); commands() = refused 2 10 10; account(1) = 0; account(10) = 0
            """);
    }

    private static void faults() {
        fault("", 0);
        fault(";", 0);
        fault(" w", 0);
        fault("K1/0", 0);
        fault("x", 0);
        fault("k", 1);
        fault("k/", 1);
        fault("k1", 2);
        fault("k12", 3);
        fault("k123/0", 3);
        fault("k1;", 2);
        fault("k1/", 3);
        fault("k1/0/", 4);
        fault("k1/01", 4);
        fault("k12/0,", 5);
        fault("l", 1);
        fault("l;", 1);
        fault("l1/", 2);
        fault("l123", 3);
        fault("l-1", 1);
        fault("c", 1);
        fault("c1", 2);
        fault("c11", 2);
        fault("c1/", 3);
        fault("c1/x", 3);
        fault("c1/111", 5);
        fault("b", 1);
        fault("b1", 2);
        fault("b1/1", 2);
        fault("b123", 3);
        fault("u0", 2);
        fault("u0;", 2);
        fault("p", 1);
        fault("p0a", 2);
        fault("p000", 3);
        fault("t", 1);
        fault("t00", 2);
        fault("s", 1);
        fault("sx", 1);
        fault("s11", 2);
        fault("w1", 1);
        fault("ww", 1);
        fault("w;", 2);
        fault("w;;", 2);
        fault("w; w", 2);
        fault("l1;l2;", 6);
        fault("t5;k64/9;q", 9);
        fault("l1:", 2);
        fault("l/", 1);
        Runs.check("promise 28: signs of any number", """
            append(0) = 1; commands() = throws IllegalArgumentException; faultPosition() = 0; append('w') = 1;
            append(0) = 2; commands() = throws IllegalArgumentException; faultPosition() = 1; append('l') = 1;
            append('1') = 2; append(178) = 3; commands() = throws IllegalArgumentException; faultPosition() = 2;
            append('l') = 1; append(65297) = 2; commands() = throws IllegalArgumentException; faultPosition() = 1;
            append('k') = 1; append('1') = 2; append(0) = 3; commands() = throws IllegalArgumentException;
            faultPosition() = 2
            """);
        Runs.check("promise 28: the latest text tells", """
            faultPosition() = -1; append('x') = 1; faultPosition() = -1; commands() = throws IllegalArgumentException;
            faultPosition() = 0; append('l') = 1; faultPosition() = 0; append('1') = 2; commands() = 1;
            faultPosition() = -1; type("l1;q"); commands() = throws IllegalArgumentException; faultPosition() = 3;
            type("t0"); commands() = refused 3 0 0; faultPosition() = -1; type("l"); undo() = 0; faultPosition() = -1;
            commands() = throws IllegalArgumentException; faultPosition() = 1; save() = 0; restore() = 0;
            faultPosition() = 1
            """);
    }

    /** A text with a fault changes nothing, keeps no reason, and is gone. */
    private static void fault(String text, int position) {
        KeyWaves lodge = new KeyWaves();
        Runs.type(lodge, text);
        Runs.on(lodge, "promise 28: " + text, """
            commands() = throws IllegalArgumentException; account(11) = 0; account(1) = 0; account(10) = 0;
            reason(0) = throws NoSuchElementException; faultPosition() =\s""" + position);
    }

    private static void reasons() {
        Runs.check("promise 29", """
            reason(-1) = throws IllegalArgumentException; reason(3) = throws IllegalArgumentException;
            reason(0) = throws NoSuchElementException; reason(1) = throws NoSuchElementException; reason(2) = throws
            NoSuchElementException; type("x"); commands() = throws IllegalArgumentException; reason(0) = throws
            NoSuchElementException; keyOf(0, 0) = throws IndexOutOfBoundsException; reason(0) = throws
            NoSuchElementException; type("l1;l2;t7"); commands() = refused 3 7 2; reason(3) = throws
            IllegalArgumentException; lock(1) = 0; reason(0) = 3; reason(2) = 2; take(5) = refused 3 5 0;
            type("l1;t6"); commands() = refused 3 6 1; lock(64) = refused 1 0 0; type("l1"); commands() = 1;
            reason(0) = 1; type("x"); commands() = throws IllegalArgumentException; reason(0) = 1; undo() = 1;
            reason(0) = 1; save() = 0; put(8, 0) = refused 3 8 0; restore() = 0; reason(1) = 8;
            key(1, 0) = 0; put(0, 9) = refused 4 9 0; slack(6) = refused 5 0 0; reason(1) = 0
            """);
    }
}
