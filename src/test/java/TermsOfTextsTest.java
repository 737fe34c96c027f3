import java.util.regex.Matcher;
import java.util.regex.Pattern;

/** "Terms", Texts, Reasons and Exceptions: each sentence that names a boundary case; promises 26 to 31. */
final class TermsOfTextsTest {
    private static final Pattern TEXT = Pattern.compile("C(;C)*".replace("C",
        "(k[0-9]{1,2}/[0-9]|l[0-9]{1,2}|c[0-9]/[0-9]{1,2}|[bup][0-9]{2}|[ts][0-9]|w)"));
    private static final String SIGNS = "klcbuptsw;/059x";
    private static final int LONGEST_TRIED = 4;

    public static void main(String[] arguments) {
        buffer();
        fullBuffer();
        signs();
        commandsAndBlanks();
        digits();
        endsTooEarly();
        shortTexts("");
        faultPositions();
        faultsFirst();
        allOrNone();
        indexes();
        numbersOfCommands();
        carriedOut();
        reasonsInOrder();
        details();
        reasonsStay();
        exceptions();
        lines();
        longestLines();
        characters();
        Runs.end("TermsOfTextsTest");
    }

    /** A text of some length: "w" and as often ";w" as there is place; of an even length it ends with ";". */
    private static String waves(int length) {
        return "w;".repeat(30).substring(0, length);
    }

    private static String quoted(String text) {
        return "type(\"" + text + "\"); ";
    }

    private static void buffer() {
        Runs.check("promise 26: the new length, from 1 on", """
            account(11) = 0; append('w') = 1; account(11) = 1; append(59) = 2; append('w') = 3; account(11) = 3;
            account(10) = 0; account(0) = 0
            """);
        KeyWaves lodge = new KeyWaves();
        for (int length = 1; length <= 60; length++) {
            Runs.on(lodge, "promise 26: each length up to 60", "append('l') = " + length + "; account(11) = " + length);
        }
        Runs.on(lodge, "promise 26: each length up to 60", "append('l') = throws IllegalStateException; account(11) = 60");
    }

    private static void fullBuffer() {
        Runs.check("promise 26: a buffer that contains 59 characters, and 60", quoted(waves(59)) + """
            account(11) = 59; append(59) = 60; account(11) = 60; append('w') = throws IllegalStateException;
            append('w') = throws IllegalStateException; account(11) = 60; key(1, 0) = 0; lock(1) = 0; commands() = throws
            IllegalArgumentException; faultPosition() = 60; account(11) = 0; append('w') = 1; commands() = 1
            """);
        Runs.check("promises 26 and 27: a full buffer without a fault", "key(1, 3) = 0; "
            + quoted("s0;s1;".repeat(9) + "s0;s12") + "account(11) = 60; append('3') = throws IllegalStateException; "
            + "commands() = throws IllegalArgumentException; faultPosition() = 59; account(5) = 6; "
            + quoted("s0;s1;".repeat(9) + "s0;l12") + "append(59) = throws IllegalStateException; commands() = 20; "
            + "faultPosition() = -1; lockOf(0, 0) = 12; account(5) = 0; account(11) = 0; account(10) = 2");
        Runs.check("promises 26 and 27: a full buffer is empty behind a fault", quoted(waves(60)) + """
            append(0) = throws IllegalStateException; commands() = throws IllegalArgumentException; faultPosition() = 60;
            account(11) = 0; append('w') = 1; account(11) = 1
            """);
        Runs.check("promises 26 and 27: a full buffer is empty behind a refusal", quoted("s0;s1;".repeat(9) + "s0;l99") + """
            append(0) = throws IllegalStateException; account(11) = 60; commands() = refused 1 0 19; account(11) = 0;
            append('w') = 1; account(11) = 1; account(5) = 6
            """);
        Runs.check("promise 26: the buffer stays full after undo, restore, save and line", "lock(1) = 0; save() = 0; "
            + quoted("l1;".repeat(9) + "s0;s1;".repeat(5) + "s02") + """
            append('1') = throws IllegalStateException; undo() = 0; restore() = 0; line(true) = 3; account(11) = 60;
            append('1') = throws IllegalStateException; commands() = throws IllegalArgumentException; faultPosition() = 59
            """);
    }

    private static void signs() {
        for (int sign : new int[] {0, 10, 31, 32, 127, 128, 178, 255, 256, 1632, 65297, 65535}) {
            Runs.check("promise 26: any character is appended, " + sign, "append(" + sign + ") = 1; account(11) = 1; "
                + "commands() = throws IllegalArgumentException; faultPosition() = 0; append('w') = 1; append(" + sign
                + ") = 2; commands() = throws IllegalArgumentException; faultPosition() = 1; append('l') = 1; append(" + sign
                + ") = 2; commands() = throws IllegalArgumentException; faultPosition() = 1; append('l') = 1; append('0') = 2; "
                + "append(" + sign + ") = 3; commands() = throws IllegalArgumentException; faultPosition() = 2");
        }
    }

    private static void commandsAndBlanks() {
        Runs.check("Texts: one or more commands", """
            commands() = throws IllegalArgumentException; faultPosition() = 0; type("l1"); commands() = 1;
            type("l1;l2"); commands() = 2; account(1) = 3; account(10) = 2; commands() = throws IllegalArgumentException;
            faultPosition() = 0; account(1) = 3
            """);
        Runs.check("Texts: with ; between them", """
            type(";"); commands() = throws IllegalArgumentException; faultPosition() = 0; type(";l1"); commands() = throws
            IllegalArgumentException; faultPosition() = 0; type("l1;"); commands() = throws IllegalArgumentException;
            faultPosition() = 3; type("l1;;l2"); commands() = throws IllegalArgumentException; faultPosition() = 3;
            type("l1l2"); commands() = throws IllegalArgumentException; faultPosition() = 2; type("l1, l2"); commands() =
            throws IllegalArgumentException; faultPosition() = 2; type("ww"); commands() = throws
            IllegalArgumentException; faultPosition() = 1; account(1) = 0; account(10) = 0
            """);
    }

    private static void digits() {
        Runs.check("Texts: sets have 1 or 2 digits", """
            type("k0/0;k00/0;k9/0;k09/0;k63/0;l0;l00;l5;l05;l63"); commands() = 10; keyOf(0, 0) = 0; keyOf(1, 0) = 0;
            keyOf(2, 0) = 9; keyOf(3, 0) = 9; keyOf(4, 0) = 63; lockOf(0, 0) = 0; lockOf(1, 0) = 0; lockOf(2, 0) = 5;
            lockOf(3, 0) = 5; lockOf(4, 0) = 63; type("c0/7;c1/07;c2/63;c3/00;c4/10"); commands() = 5; keyOf(0, 0) = 7;
            keyOf(1, 0) = 7; keyOf(2, 0) = 63; keyOf(3, 0) = 0; keyOf(4, 0) = 10
            """);
        Runs.check("Texts: sets have not 3 digits, and not none", """
            type("k063/0"); commands() = throws IllegalArgumentException; faultPosition() = 3; type("l063"); commands() =
            throws IllegalArgumentException; faultPosition() = 3; type("k/0"); commands() = throws
            IllegalArgumentException; faultPosition() = 1; type("l"); commands() = throws IllegalArgumentException;
            faultPosition() = 1; type("c0/063"); commands() = throws IllegalArgumentException; faultPosition() = 5;
            type("c0/"); commands() = throws IllegalArgumentException; faultPosition() = 3; account(10) = 0
            """);
        Runs.check("Texts: all else one", """
            type("k1/00"); commands() = throws IllegalArgumentException; faultPosition() = 4; type("c00/1"); commands() =
            throws IllegalArgumentException; faultPosition() = 2; type("b000"); commands() = throws
            IllegalArgumentException; faultPosition() = 3; type("u000"); commands() = throws IllegalArgumentException;
            faultPosition() = 3; type("p000"); commands() = throws IllegalArgumentException; faultPosition() = 3;
            type("t00"); commands() = throws IllegalArgumentException; faultPosition() = 2; type("s00"); commands() =
            throws IllegalArgumentException; faultPosition() = 2; type("w0"); commands() = throws
            IllegalArgumentException; faultPosition() = 1; type("k1/"); commands() = throws IllegalArgumentException;
            faultPosition() = 3; type("b0"); commands() = throws IllegalArgumentException; faultPosition() = 2
            """);
        Runs.check("Texts, reason 1: a number is out of range, although it has its digits", """
            type("k64/0"); commands() = refused 1 0 0; faultPosition() = -1; type("k99/0"); commands() = refused 1 0 0;
            type("k63/4"); commands() = refused 1 0 0; type("k63/9"); commands() = refused 1 0 0; type("l64"); commands() =
            refused 1 0 0; type("l99"); commands() = refused 1 0 0; type("s7"); commands() = refused 1 0 0; type("s9");
            commands() = refused 1 0 0; key(1, 0) = 0; type("c0/64"); commands() = refused 1 0 0; type("c0/99");
            commands() = refused 1 0 0; faultPosition() = -1; type("k63/3;l63;s0;c0/63"); commands() = 4
            """);
    }

    private static void endsTooEarly() {
        String[] whole = {"k63/0", "l63", "c0/63", "b00", "u00", "p00", "t0", "s0", "w"};
        for (String command : whole) {
            for (int length = 0; length < command.length(); length++) {
                String begun = command.substring(0, length);
                if (!TEXT.matcher(begun).matches()) {
                    tooEarly(begun);
                    tooEarly("w;" + begun);
                    tooEarly(waves(58 - length / 2 * 2).substring(0, 58 - length / 2 * 2) + begun);
                }
            }
        }
    }

    private static void tooEarly(String text) {
        Runs.check("Texts, promise 28: or the length of the text if it ends too early", "key(1, 0) = 0; lock(1) = 0; "
            + quoted(text) + "account(11) = " + text.length() + "; commands() = throws IllegalArgumentException; "
            + "faultPosition() = " + text.length() + "; account(11) = 0");
    }

    /** Tries all short texts of some signs: the fault is told by what a pattern says of each beginning. */
    private static void shortTexts(String text) {
        KeyWaves lodge = new KeyWaves();
        Runs.type(lodge, text);
        int due = faultOf(text);
        String answer = Runs.answer(lodge, "commands()");
        Runs.same("promise 28: fault of " + text, Runs.use(lodge).faultPosition(), due);
        Runs.same("promise 27: " + text, answer.equals("throws IllegalArgumentException"), due >= 0);
        Runs.same("promise 27: the buffer is empty after " + text, Runs.use(lodge).account(11), 0);
        if (text.length() < LONGEST_TRIED && (due < 0 || due == text.length() || text.length() < 3)) {
            for (char sign : SIGNS.toCharArray()) {
                shortTexts(text + sign);
            }
        }
    }

    private static int faultOf(String text) {
        for (int end = 1; end <= text.length(); end++) {
            Matcher matcher = TEXT.matcher(text.substring(0, end));
            if (!matcher.matches() && !matcher.hitEnd()) {
                return end - 1;
            }
        }
        return TEXT.matcher(text).matches() ? -1 : text.length();
    }

    private static void faultPositions() {
        Runs.check("promise 28: -1 if there was no such call, or no fault", """
            faultPosition() = -1; append('x') = 1; faultPosition() = -1; commands() = throws IllegalArgumentException;
            faultPosition() = 0; append('x') = 1; faultPosition() = 0; type("y"); commands() = throws
            IllegalArgumentException; faultPosition() = 0; type("l1"); faultPosition() = 0; commands() = 1;
            faultPosition() = -1; type("l1;x"); commands() = throws IllegalArgumentException; faultPosition() = 3;
            type("t0"); commands() = refused 3 0 0; faultPosition() = -1
            """);
        Runs.check("promise 28: the latest call of commands alone", """
            key(1, 0) = 0; lock(1) = 0; save() = 0; type("w;x"); commands() = throws IllegalArgumentException;
            faultPosition() = 2; wave() = 1; faultPosition() = 2; take(0) = 0; wave() = 1; wave() = refused 10 1 0;
            faultPosition() = 2; undo() = 4; undo() = 3; faultPosition() = 2; restore() = 0; faultPosition() = 2;
            line(true) = 3; save() = 0; faultPosition() = 2; keyOf(5, 5) = throws IndexOutOfBoundsException;
            faultPosition() = 2
            """);
        Runs.check("promise 28: the first of several faults", """
            type("l1;x;y;k;"); commands() = throws IllegalArgumentException; faultPosition() = 3; type("xyz"); commands() =
            throws IllegalArgumentException; faultPosition() = 0; type("k1/0k1/0k"); commands() = throws
            IllegalArgumentException; faultPosition() = 4
            """);
        String fiftyNine = "l1;".repeat(19) + "t0";
        Runs.check("promise 28: the last place of a full buffer", quoted(fiftyNine + "x") + """
            account(11) = 60; commands() = throws IllegalArgumentException; faultPosition() = 59; account(1) = 0;
            """ + quoted(fiftyNine + ";") + """
            commands() = throws IllegalArgumentException; faultPosition() = 60; account(1) = 0;
            """ + quoted(fiftyNine) + "commands() = refused 2 10 10; faultPosition() = -1");
    }

    private static void faultsFirst() {
        Runs.check("Exceptions, promise 27: a fault is told before a refusal", """
            type("t0;x"); commands() = throws IllegalArgumentException; faultPosition() = 3; reason(0) = throws
            NoSuchElementException; type("k64/9;l64;"); commands() = throws IllegalArgumentException; faultPosition() = 10;
            reason(0) = throws NoSuchElementException; account(11) = 0; take(4) = refused 3 4 0; type("w;"); commands() =
            throws IllegalArgumentException; reason(0) = 3; reason(1) = 4; reason(2) = 0
            """);
        Runs.check("promise 27: the buffer is empty afterwards, also if an exception is thrown", """
            type("x"); commands() = throws IllegalArgumentException; account(11) = 0; type("t0"); commands() =
            refused 3 0 0; account(11) = 0; type("l1"); commands() = 1; account(11) = 0; commands() = throws
            IllegalArgumentException; account(11) = 0; append('l') = 1; append('2') = 2; commands() = 1; lockOf(1, 0) = 2
            """);
    }

    private static void allOrNone() {
        Runs.check("Texts, promise 27: if one is refused, none is carried out, the first one", """
            type("t0;k1/0;l1"); commands() = refused 3 0 0; account(0) = 0; account(1) = 0; account(10) = 0; undo() = throws
            IllegalStateException
            """);
        Runs.check("Texts, promise 27: if one is refused, none is carried out, the last one", """
            key(3, 0) = 0; lock(1) = 0; put(0, 0) = 1; type("k1/1;l2;c0/1;c0/3;b01;s2;t0;w;w"); commands() =
            refused 10 1 8; account(0) = 1; account(1) = 1; account(2) = 1; account(4) = 0; account(5) = 6; account(6) = 0;
            account(7) = 0; account(8) = 0; account(9) = 0; account(10) = 3; keyOf(0, 0) = 3; keyOf(0, 2) = 0;
            keyOf(0, 5) = 0; lockOf(0, 3) = 1; lockOf(0, 1) = 0; undo() = 2; keyOf(0, 2) = -1
            """);
        Runs.check("Texts, promise 27: eight changes are kept as they are when a text is refused", """
            lock(0) = 0; lock(1) = 1; lock(2) = 2; lock(3) = 3; lock(4) = 4; lock(5) = 5; lock(6) = 6; lock(7) = 7;
            type("l8;l9;l10"); commands() = refused 2 10 2; account(1) = 8; account(10) = 8; type("l8;l9"); commands() = 2;
            account(1) = 10; account(10) = 8; undo() = 7; account(1) = 8; undo() = 6; account(1) = 7
            """);
    }

    private static void indexes() {
        Runs.check("Reasons: the index of the command of a text, from 0", """
            type("t0"); commands() = refused 3 0 0; type("l1;t1"); commands() = refused 3 1 1; type("l1;l2;t2"); commands() =
            refused 3 2 2; put(5, 5) = refused 3 5 0; type("l1;l2;l3;t3"); commands() = refused 3 3 3; slack(6) =
            refused 5 0 0
            """);
        Runs.check("Reasons: the index of the first and of the last of many commands", "key(0, 0) = 0; "
            + quoted("l0;" + "w;t0;".repeat(8) + "w;p00") + "commands() = refused 8 0 18; account(1) = 0; "
            + quoted(waves(59)) + "account(11) = 59; commands() = refused 10 0 0; " + quoted("s0;s1;".repeat(9) + "l0;s7")
            + "commands() = refused 1 0 19; account(5) = 6; account(1) = 0; " + quoted("l0;" + "w;t0;".repeat(11) + "t0")
            + "commands() = refused 9 0 23; account(1) = 0; account(6) = 0");
        StringBuilder locks = new StringBuilder();
        for (int lock = 0; lock < 10; lock++) {
            locks.append("lock(").append(1 << lock % 6).append(") = ").append(lock).append("; ");
        }
        Runs.check("Reasons, promise 27: six waves, and the seventh is refused", locks + """
            key(1, 0) = 0; type("w;t0;w;t0;w;t0;w;t0;w;t0;w;w"); commands() = refused 10 1 11; account(6) = 0;
            account(7) = 0; type("w;t0;w;t0;w;t0;w;t0;w;t0;w"); commands() = 11; account(6) = 6; account(7) = 6
            """);
    }

    private static void numbersOfCommands() {
        Runs.check("promise 27: the number of commands, 1 and more", """
            type("s0"); commands() = 1; type("s1;s2"); commands() = 2; type("s1;s2;s3"); commands() = 3; account(10) = 3;
            undo() = 2; account(5) = 2
            """);
        for (int count = 1; count <= 20; count++) {
            StringBuilder text = new StringBuilder();
            for (int i = 0; i < count; i++) {
                text.append(i == 0 ? "" : ";").append("s").append(i % 6);
            }
            Runs.check("promise 27: the number of commands, " + count, quoted(text.toString()) + "commands() = " + count
                + "; account(5) = " + (count - 1) % 6 + "; account(10) = 1; undo() = 0; account(5) = 6");
        }
        Runs.check("promise 27: the number of commands, 24", "key(0, 0) = 0; lock(0) = 0; "
            + quoted("w;t0;".repeat(11) + "w;t0") + "account(11) = 59; commands() = 24; account(6) = 12; account(7) = 12; "
            + "lockOf(0, 3) = 12; account(2) = 0; account(10) = 3; undo() = 2; account(6) = 0; lockOf(0, 3) = 0");
    }

    private static void carriedOut() {
        Runs.check("Texts, promise 27: one after the other, each as its method would", """
            type("k3/2;k5/0;l1;l4;p00;b10;w"); commands() = 7; keyOf(0, 0) = 3; keyOf(0, 1) = 2; keyOf(1, 0) = 5;
            keyOf(1, 1) = 0; lockOf(0, 0) = 1; lockOf(1, 0) = 4; lockOf(0, 1) = 0; lockOf(1, 1) = 1; isBarred(1, 0) = true;
            isBarred(0, 1) = false; account(6) = 1; account(7) = 1; type("t1;u10;c1/21;s2;p11"); commands() = 5;
            isBarred(1, 0) = false; keyOf(1, 0) = 21; keyOf(1, 5) = 1; account(5) = 2; lockOf(1, 1) = 1;
            lockOf(1, 3) = 2; account(10) = 2
            """);
        Runs.check("Texts: b and u, a key and then a lock; c, a key and then a set; k, a set and then a porter", """
            type("k1/0;k2/3;l1;l2;l3"); commands() = 5; type("b12"); commands() = 1; isBarred(1, 2) = true;
            type("b02;u12"); commands() = 2; isBarred(0, 2) = true; isBarred(1, 2) = false; type("p11"); commands() = 1;
            lockOf(1, 1) = 1; type("c1/0"); commands() = 1; keyOf(1, 0) = 0; keyOf(0, 0) = 1; type("b21"); commands() =
            refused 3 2 0; type("b13"); commands() = refused 4 3 0; type("p09"); commands() = refused 4 9 0; type("p90");
            commands() = refused 3 9 0; type("t9"); commands() = refused 3 9 0; keyOf(1, 1) = 3
            """);
    }

    private static void reasonsInOrder() {
        Runs.check("Reasons, promise 7: 3 before 4, 4 before 8", """
            key(3, 0) = 0; key(1, 0) = 1; lock(1) = 0; lock(2) = 1; put(9, 9) = refused 3 9 0; put(9, 0) = refused 3 9 0;
            put(0, 9) = refused 4 9 0; put(0, 0) = 1; put(9, 0) = refused 3 9 0; put(0, 9) = refused 4 9 0;
            put(0, 2) = refused 4 2 0; put(2, 0) = refused 3 2 0
            """);
        Runs.check("Reasons, promise 7: 8 before 7, 8 before 6, 7 before 6", """
            key(3, 0) = 0; key(1, 0) = 1; lock(1) = 0; lock(2) = 1; lock(60) = 2; put(0, 1) = 1; put(1, 0) = 2;
            put(0, 0) = refused 8 1 0; put(1, 1) = refused 8 0 0; put(0, 1) = refused 8 1 0; put(0, 2) = refused 8 1 0;
            key(32, 0) = 2; put(2, 0) = refused 7 1 0; put(2, 1) = refused 7 0 0; put(2, 2) = refused 6 3 0; take(0) = 1;
            put(0, 0) = refused 7 1 0; put(0, 2) = refused 6 4 0; put(1, 2) = refused 8 0 0
            """);
        Runs.check("Reasons, promises 5 and 8: 3 before 4, 4 before 5, 3 before 9", """
            bar(0, 0, false) = refused 3 0 0; key(1, 0) = 0; bar(1, 1, false) = refused 3 1 0; bar(0, 0, false) =
            refused 4 0 0; lock(1) = 0; bar(0, 0, false) = refused 5 0 0; take(0) = refused 9 0 0; take(1) = refused 3 1 0
            """);
    }

    private static void details() {
        Runs.check("Reasons, 2: how many there can be", """
            type("k1/0;k1/0;k1/0;k1/0;k1/0;k1/0;k1/0;k1/0;k1/0;k1/0;k1/0"); commands() = refused 2 10 10; account(0) = 0;
            type("l1;l1;l1;l1;l1;l1;l1;l1;l1;l1;l1;l1"); commands() = refused 2 10 10; account(1) = 0
            """);
        Runs.check("Reasons, 6: how many pins lack a ward, from none to six", """
            key(0, 0) = 0; lock(63) = 0; lock(31) = 1; lock(15) = 2; lock(7) = 3; lock(3) = 4; lock(1) = 5; lock(0) = 6;
            put(0, 0) = refused 6 6 0; put(0, 1) = refused 6 5 0; put(0, 2) = refused 6 4 0; put(0, 3) = refused 6 3 0;
            put(0, 4) = refused 6 2 0; put(0, 5) = refused 6 1 0; bar(0, 6, true) = 1; put(0, 6) = refused 6 0 0;
            cut(0, 63) = 6; slack(0) = 0; put(0, 5) = refused 6 0 0; cut(0, 62) = 1; put(0, 5) = refused 6 1 0
            """);
        Runs.check("Reasons, 7 and 8: the key 9 and the lock 9, the key 0 and the lock 0", """
            type("k1/0;k1/0;k1/0;k1/0;k1/0;k1/0;k1/0;k1/0;k1/0;k1/0"); commands() = 10;
            type("l1;l1;l1;l1;l1;l1;l1;l1;l1;l1"); commands() = 10; put(9, 9) = 1; put(0, 0) = 2; put(9, 0) = refused 8 9 0;
            put(0, 9) = refused 8 0 0; put(1, 9) = refused 7 9 0; put(1, 0) = refused 7 0 0; take(8) = refused 9 8 0;
            take(1) = refused 9 1 0; wave() = 8; wave() = refused 10 10 0
            """);
        Runs.check("Reasons: if nothing else is told, the detail is 0", """
            take(7) = refused 3 7 0; key(64, 0) = refused 1 0 0; take(7) = refused 3 7 0; lock(64) = refused 1 0 0;
            take(7) = refused 3 7 0; slack(7) = refused 1 0 0; take(7) = refused 3 7 0; slack(6) = refused 5 0 0;
            key(1, 0) = 0; take(7) = refused 3 7 0; cut(0, 64) = refused 1 0 0; take(7) = refused 3 7 0; cut(0, 1) =
            refused 5 0 0; lock(1) = 0; take(7) = refused 3 7 0; bar(0, 0, false) = refused 5 0 0
            """);
    }

    private static void reasonsStay() {
        Runs.check("promise 29: nothing was refused", """
            reason(0) = throws NoSuchElementException; reason(1) = throws NoSuchElementException; reason(2) = throws
            NoSuchElementException; key(1, 0) = 0; lock(1) = 0; wave() = 1; type("x"); commands() = throws
            IllegalArgumentException; keyOf(1, 0) = throws IndexOutOfBoundsException; undo() = 2; restore() = throws
            IllegalStateException; reason(0) = throws NoSuchElementException
            """);
        Runs.check("promise 29: the latest refusal alone", """
            type("l1;l2;t7"); commands() = refused 3 7 2; slack(9) = refused 1 0 0; reason(0) = 1; reason(1) = 0;
            reason(2) = 0; key(1, 0) = 0; take(0) = refused 9 0 0; reason(0) = 9; put(0, 4) = refused 4 4 0; reason(1) = 4
            """);
        Runs.check("Reasons: the reason is kept, whatever comes behind", """
            key(1, 0) = 0; save() = 0; type("l1;p07"); commands() = refused 4 7 1; lock(1) = 0; wave() = 1; reason(0) = 4;
            reason(1) = 7; reason(2) = 1; undo() = 2; reason(0) = 4; restore() = 0; reason(1) = 7; type("l1"); commands() =
            1; reason(2) = 1; type("l"); commands() = throws IllegalArgumentException; reason(0) = 4; line(true) = 3;
            adds() = 1; reason(3) = throws IllegalArgumentException; undo() = 0; undo() = throws IllegalStateException;
            reason(0) = 4; reason(1) = 7; reason(2) = 1
            """);
    }

    private static void exceptions() {
        Runs.check("Exceptions: the one that is listed first", """
            keyOf(0, 6) = throws IndexOutOfBoundsException; lockOf(0, 4) = throws IndexOutOfBoundsException;
            cheapest(0, -1) = throws IndexOutOfBoundsException; reason(3) = throws IllegalArgumentException;
            key(1, 0) = 0; lock(1) = 0; keyOf(0, 6) = throws IllegalArgumentException; lockOf(0, 4) = throws
            IllegalArgumentException; cheapest(0, 1) = throws NoSuchElementException; keyOf(1, 6) = throws
            IndexOutOfBoundsException; lockOf(1, 4) = throws IndexOutOfBoundsException; cheapest(1, 1) = throws
            IndexOutOfBoundsException; reason(0) = throws NoSuchElementException
            """);
        Runs.check("Exceptions: a question that throws keeps no reason", """
            fits(0, 0) = throws IndexOutOfBoundsException; isBarred(0, 0) = throws IndexOutOfBoundsException;
            costFor(0, 0) = throws IndexOutOfBoundsException; length() = throws NoSuchElementException; canBeOpen(0) =
            throws IndexOutOfBoundsException; isNeeded(0) = throws IndexOutOfBoundsException; porterOf(4, 0) = throws
            IllegalArgumentException; ranked(0) = throws NoSuchElementException; character(0) = throws
            IndexOutOfBoundsException; meanFits() = throws ArithmeticException; openShare() = throws ArithmeticException;
            account(12) = throws IllegalArgumentException; undo() = throws IllegalStateException; restore() = throws
            IllegalStateException; reason(0) = throws NoSuchElementException; account(10) = 0
            """);
    }

    private static void lines() {
        Runs.check("promise 30: no keys, no locks, one, and two with a blank between", """
            line(false) = 0; line(true) = 0; key(0, 0) = 0; line(true) = 0; line(false) = 3; read() = 0#0; key(63, 3) = 1;
            line(false) = 8; read() = 0#0 1#63; lock(5) = 0; line(true) = 3; read() = 0#5; lock(10) = 1; line(true) = 8;
            read() = 0#5 1#10
            """);
        Runs.check("promise 30: - and the lock in which it is, or the key that is in it, if so", """
            key(5, 0) = 0; key(63, 0) = 1; lock(63) = 0; lock(9) = 1; lock(4) = 2; put(0, 2) = 1; line(false) = 10;
            read() = 0#5-2 1#63; line(true) = 14; read() = 0#63 1#9 2#4-0; put(1, 0) = 2; line(false) = 12;
            read() = 0#5-2 1#63-0; line(true) = 16; read() = 0#63-1 1#9 2#4-0; take(0) = 2; line(true) = 14;
            read() = 0#63-1 1#9 2#4; line(false) = 10; read() = 0#5 1#63-0
            """);
        Runs.check("promise 30: in place of the line before, also a shorter or an empty one", """
            key(63, 0) = 0; key(63, 0) = 1; lock(1) = 0; line(false) = 9; line(true) = 3; read() = 0#1; character(3) =
            throws IndexOutOfBoundsException; undo() = 2; line(true) = 0; character(0) = throws IndexOutOfBoundsException;
            line(false) = 9; read() = 0#63 1#63
            """);
        Runs.check("promise 30: the line is of when it was written", """
            key(1, 0) = 0; line(false) = 3; cut(0, 2) = 2; key(4, 0) = 1; read() = 0#1; undo() = 2; undo() = 1; undo() = 0;
            read() = 0#1; save() = 0; restore() = 0; read() = 0#1; type("l1"); commands() = 1; read() = 0#1;
            account(10) = 1; line(false) = 0; character(0) = throws IndexOutOfBoundsException
            """);
        for (int set = 0; set < 64; set++) {
            Runs.check("promise 30: each set is written with its digits", "key(" + set + ", 0) = 0; lock(" + set
                + ") = 0; line(false) = " + ("0#" + set).length() + "; read() = 0#" + set + "; line(true) = "
                + ("0#" + set).length() + "; read() = 0#" + set);
        }
    }

    private static void longestLines() {
        StringBuilder calls = new StringBuilder();
        StringBuilder due = new StringBuilder();
        for (int number = 0; number < 10; number++) {
            calls.append("key(63, 0) = " + number + "; lock(63) = " + number + "; ");
            due.append(number == 0 ? "" : " ").append(number).append("#63-").append(number);
        }
        Runs.check("promises 30 and 31: the longest line", calls + "wave() = 10; line(false) = 69; read() = " + due
            + "; character(68) = 9; character(69) = throws IndexOutOfBoundsException; line(true) = 69; read() = " + due
            + "; character(0) = 0; character(68) = 9; character(69) = throws IndexOutOfBoundsException; character(70) = "
            + "throws IndexOutOfBoundsException");
    }

    private static void characters() {
        Runs.check("promise 31: empty at first", """
            character(0) = throws IndexOutOfBoundsException; character(-1) = throws IndexOutOfBoundsException;
            character(1) = throws IndexOutOfBoundsException; key(7, 0) = 0; character(0) = throws
            IndexOutOfBoundsException; line(false) = 3; character(-1) = throws IndexOutOfBoundsException; character(0) = 0;
            character(1) = #; character(2) = 7; character(3) = throws IndexOutOfBoundsException
            """);
    }
}
