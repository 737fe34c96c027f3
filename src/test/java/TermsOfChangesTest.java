import java.util.ArrayList;
import java.util.List;

/**
 * "Terms", Changes, "What it is" and "Not promised": each sentence that names a boundary case; promises 1 and 32
 * to 37, and that a question changes nothing.
 */
final class TermsOfChangesTest {
    /** A lodge in which there is something of all that can be kept. */
    private static final String RICH = """
        key(3, 2) = 0; key(1, 0) = 1; key(6, 3) = 2; lock(1) = 0; lock(2) = 1; lock(4) = 2; put(0, 0) = 1; save() = 1;
        cut(2, 14) = 1; bar(2, 0, true) = 1; line(false) = 14; type("t0;x"); commands() = throws IllegalArgumentException;
        type("l1;p19"); commands() = refused 4 9 1; slack(5) = 0; type("l1;w");
        """;

    public static void main(String[] arguments) {
        newObject();
        undoable();
        notUndoable();
        latestEight();
        eachUndone();
        refusedAreNotKept();
        whatStays();
        whatChangesLeave();
        snapshots();
        noSnapshot();
        restoring();
        questions();
        shares();
        accounts();
        manyCalls();
        objectsApart();
        Runs.end("TermsOfChangesTest");
    }

    private static void newObject() {
        for (int what = 0; what < 12; what++) {
            Runs.check("promise 1: without keys and locks", "account(" + what + ") = " + (what == 5 ? 6 : 0));
        }
        Runs.check("promise 1: nothing kept, nothing saved, nothing refused", """
            undo() = throws IllegalStateException; restore() = throws IllegalStateException; reason(0) = throws
            NoSuchElementException; faultPosition() = -1; character(0) = throws IndexOutOfBoundsException; save() = 0;
            restore() = 0; undo() = throws IllegalStateException; account(5) = 6
            """);
    }

    private static void undoable() {
        Runs.check("Changes: what can be undone, each of the nine", """
            key(3, 0) = 0; account(10) = 1; lock(1) = 0; account(10) = 2; cut(0, 1) = 1; account(10) = 3;
            bar(0, 0, true) = 1; account(10) = 4; bar(0, 0, false) = 0; account(10) = 5; slack(3) = 0; account(10) = 6;
            put(0, 0) = 1; account(10) = 7; take(0) = 0; account(10) = 8; undo() = 7; undo() = 6; undo() = 5; wave() = 1;
            account(10) = 6; type("t0;s4"); commands() = 2; account(10) = 7; undo() = 6; account(5) = 6; account(2) = 1;
            undo() = 5; account(2) = 0; undo() = 4; isBarred(0, 0) = true; undo() = 3; isBarred(0, 0) = false; undo() = 2;
            keyOf(0, 0) = 3; undo() = 1; account(1) = 0; undo() = 0; account(0) = 0
            """);
    }

    private static void notUndoable() {
        Runs.check("Changes: what cannot be undone", """
            key(1, 0) = 0; lock(1) = 0; adds() = 1; waves() = 1; most() = 1; mostAgain() = 1; cover(true) = 0;
            cover(false) = 1; canBeOpen(0) = true; isNeeded(0) = true; porterOf(0, 0) = 1; ranked(0) = 0; keyOf(0, 3) = 0;
            lockOf(0, 1) = -1; fits(0, 0) = true; isBarred(0, 0) = false; costFor(0, 0) = 0; cheapest(0, 0) = 0;
            length() = 1; append('l') = 1; append('1') = 2; faultPosition() = -1; line(true) = 3; character(0) = 0;
            meanFits() = 1.0; openShare() = 0.0; account(10) = 2; save() = 0; account(10) = 2; undo() = 1; account(10) = 1;
            undo() = 0; account(10) = 0; undo() = throws IllegalStateException; commands() = 1; account(10) = 1
            """);
        Runs.check("Changes: undo and restore are no changes", """
            lock(1) = 0; lock(2) = 1; undo() = 1; account(1) = 1; undo() = 0; account(1) = 0; save() = 0; lock(5) = 0;
            restore() = 0; account(10) = 0; undo() = throws IllegalStateException; account(1) = 0; restore() = 0;
            account(10) = 0
            """);
    }

    private static void latestEight() {
        for (int changes = 1; changes <= 20; changes++) {
            StringBuilder calls = new StringBuilder();
            for (int i = 1; i <= changes; i++) {
                calls.append("slack(" + i % 6 + ") = 0; account(10) = " + Math.min(i, 8) + "; ");
            }
            for (int i = 1; i <= Math.min(changes, 8); i++) {
                int slack = changes - i == 0 ? 6 : (changes - i) % 6;
                calls.append("undo() = " + (Math.min(changes, 8) - i) + "; account(5) = " + slack + "; ");
            }
            Runs.check("Changes, promise 35: each of the latest 8, of " + changes, calls
                + "undo() = throws IllegalStateException; account(10) = 0");
        }
        Runs.check("Changes, promise 35: 8 are kept again behind an undo", """
            lock(0) = 0; lock(1) = 1; lock(2) = 2; lock(3) = 3; lock(4) = 4; lock(5) = 5; lock(6) = 6; lock(7) = 7;
            undo() = 7; undo() = 6; lock(8) = 6; lock(9) = 7; lock(10) = 8; account(10) = 8; lockOf(6, 0) = 8; undo() = 7;
            undo() = 6; undo() = 5; undo() = 4; undo() = 3; undo() = 2; undo() = 1; account(1) = 2; undo() = 0;
            account(1) = 1; undo() = throws IllegalStateException; lockOf(0, 0) = 0
            """);
        Runs.check("Changes, promise 35: a text of many commands is one of the 8", """
            lock(0) = 0; type("l1;l2;l3;l4;l5;l6;l7;l8;l9"); commands() = 9; account(10) = 2; undo() = 1; account(1) = 1;
            undo() = 0; account(1) = 0; undo() = throws IllegalStateException
            """);
    }

    private static void eachUndone() {
        Runs.check("promise 35: what was there before is there again", """
            key(3, 1) = 0; lock(1) = 0; lock(2) = 1; put(0, 0) = 1; cut(0, 2) = 1; account(8) = 1; lockOf(0, 1) = -1;
            undo() = 4; keyOf(0, 0) = 3; keyOf(0, 2) = 0; keyOf(0, 5) = 0; account(8) = 0; account(9) = 0; lockOf(0, 1) = 0;
            lockOf(0, 3) = 1; porterOf(1, 1) = 1; porterOf(1, 2) = 0; undo() = 3; keyOf(0, 2) = -1; lockOf(0, 3) = 0;
            undo() = 2; lockOf(1, 0) = throws IndexOutOfBoundsException; undo() = 1; fits(0, 0) = throws
            IndexOutOfBoundsException; undo() = 0; keyOf(0, 0) = throws IndexOutOfBoundsException
            """);
        Runs.check("promise 35: a bar of a key and a lock that are gone does not come back", """
            key(1, 0) = 0; lock(1) = 0; bar(0, 0, true) = 1; undo() = 2; undo() = 1; lock(1) = 0; isBarred(0, 0) = false;
            account(4) = 0; fits(0, 0) = true; cut(0, 3) = 1; undo() = 2; undo() = 1; undo() = 0; key(1, 1) = 0;
            keyOf(0, 5) = 0; lock(1) = 0; isBarred(0, 0) = false; keyOf(0, 1) = 1; lockOf(0, 3) = 0
            """);
        Runs.check("promise 35: a wave with all that it counts", """
            key(1, 0) = 0; key(3, 0) = 1; lock(1) = 0; lock(2) = 1; put(1, 0) = 1; wave() = 1; account(6) = 1;
            account(7) = 1; undo() = 5; account(6) = 0; account(7) = 0; keyOf(0, 2) = -1; keyOf(1, 2) = 0; lockOf(0, 1) = 1;
            lockOf(1, 1) = -1; lockOf(0, 3) = 1; lockOf(1, 3) = 0; wave() = 1; keyOf(0, 2) = 0; keyOf(1, 2) = 1
            """);
    }

    private static void refusedAreNotKept() {
        Runs.check("Changes: the successful calls", """
            key(1, 0) = 0; key(64, 0) = refused 1 0 0; lock(64) = refused 1 0 0; cut(0, 1) = refused 5 0 0;
            bar(0, 0, true) = refused 4 0 0; slack(6) = refused 5 0 0; put(0, 0) = refused 4 0 0; take(0) = refused 9 0 0;
            wave() = refused 10 0 0; type("l1;w;w"); commands() = refused 10 1 2; type("x"); commands() = throws
            IllegalArgumentException; account(10) = 1; undo() = 0; account(0) = 0; undo() = throws IllegalStateException
            """);
        Runs.check("Changes: a refused call pushes none of the 8 out", """
            slack(0) = 0; slack(1) = 0; slack(2) = 0; slack(3) = 0; slack(4) = 0; slack(5) = 0; slack(6) = 0; slack(0) = 0;
            slack(0) = refused 5 0 0; slack(7) = refused 1 0 0; type("s1;s1"); commands() = refused 5 0 1; type("s");
            commands() = throws IllegalArgumentException; account(10) = 8; undo() = 7; undo() = 6; undo() = 5; undo() = 4;
            undo() = 3; undo() = 2; undo() = 1; account(5) = 0; undo() = 0; account(5) = 6
            """);
    }

    private static void whatStays() {
        Runs.check("Changes, promise 35: the text buffer, the fault position, the reason and the line stay", """
            type("l1;x"); commands() = throws IllegalArgumentException; type("l1;t4"); commands() = refused 3 4 1;
            type("l5;y"); commands() = throws IllegalArgumentException; key(5, 0) = 0; line(false) = 3; type("l7");
            undo() = 0; account(11) = 2; faultPosition() = 3; reason(0) = 3; reason(1) = 4; reason(2) = 1; read() = 0#5;
            commands() = 1; lockOf(0, 0) = 7; undo() = 0; faultPosition() = -1; account(11) = 0
            """);
        Runs.check("Changes, promise 37: the text buffer, the fault position, the reason and the line stay", """
            save() = 0; type("l1;x"); commands() = throws IllegalArgumentException; type("l1;t4"); commands() =
            refused 3 4 1; type("l5;y"); commands() = throws IllegalArgumentException; key(5, 0) = 0; line(false) = 3;
            type("l7"); restore() = 0; account(11) = 2; faultPosition() = 3; reason(0) = 3; reason(1) = 4; reason(2) = 1;
            read() = 0#5; commands() = 1; lockOf(0, 0) = 7; restore() = 0; faultPosition() = -1; account(1) = 0
            """);
        Runs.check("Changes, promise 36: the text buffer, the fault position, the reason and the line stay", """
            type("l1;t4"); commands() = refused 3 4 1; type("l5;y"); commands() = throws IllegalArgumentException;
            key(5, 0) = 0; line(false) = 3; type("l7"); save() = 0; account(11) = 2; faultPosition() = 3; reason(0) = 3;
            reason(1) = 4; reason(2) = 1; read() = 0#5; account(10) = 1; commands() = 1; lockOf(0, 0) = 7
            """);
        Runs.check("Changes, promise 36: they are not saved", """
            type("l7"); line(false) = 0; save() = 0; commands() = 1; key(5, 0) = 0; line(false) = 3; take(0) = refused 9 0 0;
            type("q"); commands() = throws IllegalArgumentException; restore() = 0; account(11) = 0; read() = 0#5;
            reason(0) = 9; faultPosition() = 0; commands() = throws IllegalArgumentException
            """);
    }

    /** Behind each change: the buffer, the fault position, the reason and the line are told of the calls before it. */
    private static void whatChangesLeave() {
        String kept = """
            account(11) = 2; faultPosition() = 3; reason(0) = 3; reason(1) = 4; reason(2) = 1; read() = 0#5;
            """;
        String[] changes = {"key(1, 1) = 1", "lock(2) = 1", "cut(0, 6) = 2", "bar(0, 0, true) = 1", "slack(3) = 0",
            "put(0, 0) = 1", "wave() = 1", "put(0, 0) = 1; take(0) = 0", "undo() = 1", "save() = 0; restore() = 0",
            "bar(0, 0, true) = 1; bar(0, 0, false) = 0"};
        for (String change : changes) {
            Runs.check("promises 2 to 9 and 35 to 37: what a change leaves", """
                type("l1;t4"); commands() = refused 3 4 1; type("l5;y"); commands() = throws IllegalArgumentException;
                key(5, 0) = 0; line(false) = 3; lock(4) = 0; type("l7");
                """ + kept + change + "; " + kept + "commands() = 1; account(11) = 0");
        }
        Runs.check("promise 27: what commands leaves: the reason and the line", """
            type("l1;t4"); commands() = refused 3 4 1; key(5, 0) = 0; line(false) = 3; type("l4;p00;w"); commands() =
            refused 10 1 2; read() = 0#5; type("l4;w"); commands() = 2; reason(0) = 10; reason(1) = 1; reason(2) = 2;
            read() = 0#5; faultPosition() = -1
            """);
    }

    private static void snapshots() {
        Runs.check("promise 36: returns the number of open locks, none and ten", """
            save() = 0; type("k1/0;k1/0;k1/0;k1/0;k1/0;k1/0;k1/0;k1/0;k1/0;k1/0"); commands() = 10;
            type("l1;l1;l1;l1;l1;l1;l1;l1;l1;l1"); commands() = 10; save() = 0; put(4, 4) = 1; save() = 1; wave() = 9;
            save() = 10; slack(0) = 0; cut(0, 0) = 1; account(2) = 9; restore() = 10; account(2) = 10; keyOf(0, 0) = 1;
            account(5) = 6; keyOf(4, 2) = 4; keyOf(0, 2) = 0; keyOf(9, 2) = 9
            """);
        Runs.check("promise 36: in place of an earlier snapshot", """
            lock(1) = 0; save() = 0; lock(2) = 1; save() = 0; lock(3) = 2; restore() = 0; account(1) = 2; lockOf(1, 0) = 2;
            undo() = throws IllegalStateException; lock(9) = 2; save() = 0; restore() = 0; account(1) = 3; lockOf(2, 0) = 9
            """);
        Runs.check("promise 36: what is changed behind it does not change it, also not by undo", """
            key(1, 3) = 0; lock(1) = 0; wave() = 1; save() = 1; undo() = 2; undo() = 1; undo() = 0; account(0) = 0;
            restore() = 1; account(0) = 1; account(1) = 1; keyOf(0, 2) = 0; account(6) = 1; account(7) = 1;
            keyOf(0, 1) = 3; lockOf(0, 3) = 1; take(0) = 0; put(0, 0) = 1; lockOf(0, 3) = 2; restore() = 1; lockOf(0, 3) = 1
            """);
        Runs.check("promise 36: the changes that can be undone are not touched", """
            lock(1) = 0; lock(2) = 1; save() = 0; account(10) = 2; undo() = 1; save() = 0; account(10) = 1; undo() = 0;
            account(1) = 0; restore() = 0; account(1) = 1
            """);
    }

    private static void noSnapshot() {
        Runs.check("promise 37: no snapshot yet", """
            restore() = throws IllegalStateException; key(1, 0) = 0; lock(1) = 0; wave() = 1; restore() = throws
            IllegalStateException; account(10) = 3; account(2) = 1; undo() = 2; restore() = throws IllegalStateException;
            save() = 0; restore() = 0; account(10) = 0
            """);
        Runs.check("promise 35: nothing to undo", """
            undo() = throws IllegalStateException; save() = 0; undo() = throws IllegalStateException; lock(1) = 0;
            undo() = 0; undo() = throws IllegalStateException; undo() = throws IllegalStateException; account(10) = 0;
            restore() = 0; undo() = throws IllegalStateException; lock(2) = 0; undo() = 0
            """);
    }

    private static void restoring() {
        Runs.check("promise 37: the snapshot is kept", """
            key(1, 0) = 0; lock(1) = 0; put(0, 0) = 1; save() = 1; take(0) = 0; restore() = 1; keyOf(0, 2) = 0;
            restore() = 1; cut(0, 0) = 1; keyOf(0, 2) = -1; restore() = 1; keyOf(0, 0) = 1; keyOf(0, 2) = 0;
            account(9) = 0; account(8) = 0
            """);
        Runs.check("Changes, promise 37: restore forgets what there was before the latest 8", """
            save() = 0; slack(0) = 0; slack(1) = 0; slack(2) = 0; slack(3) = 0; slack(4) = 0; slack(5) = 0; slack(6) = 0;
            slack(0) = 0; slack(1) = 0; account(10) = 8; restore() = 0; account(10) = 0; account(5) = 6; undo() = throws
            IllegalStateException; slack(3) = 0; account(10) = 1; undo() = 0; account(5) = 6; undo() = throws
            IllegalStateException
            """);
        Runs.check("promise 37: all that can be undone", """
            key(3, 2) = 0; key(1, 1) = 1; lock(1) = 0; lock(2) = 1; put(0, 0) = 1; wave() = 1; cut(0, 7) = 1;
            bar(0, 1, true) = 1; slack(4) = 0; account(8) = 1; save() = 1; key(5, 0) = 2; lock(8) = 2; cut(1, 5) = 1;
            bar(1, 1, true) = 2; slack(0) = 1; type("s6;p10"); commands() = 2; restore() = 1; account(0) = 2;
            account(1) = 2; account(2) = 1; account(3) = 2; account(4) = 1; account(5) = 4; account(6) = 1; account(7) = 1;
            account(8) = 1; account(9) = 1; account(10) = 0; keyOf(0, 0) = 7; keyOf(0, 1) = 2; keyOf(0, 2) = -1;
            keyOf(0, 5) = 1; keyOf(1, 0) = 1; keyOf(1, 1) = 1; keyOf(1, 2) = 0; keyOf(1, 5) = 0; lockOf(0, 0) = 1;
            lockOf(0, 1) = 1; lockOf(0, 3) = 2; lockOf(1, 1) = -1; lockOf(1, 3) = 1; isBarred(0, 1) = true;
            isBarred(1, 1) = false; lock(3) = 2; key(9, 0) = 2; account(10) = 2
            """);
    }

    /** Each question, each call that only writes a line, appends or saves: all else is as before. */
    private static void questions() {
        List<String> before = new ArrayList<>(Runs.callsOf(RICH));
        Runs.on(new KeyWaves(), "a lodge for questions", RICH);
        String asked = """
            keyOf(0, 0); keyOf(1, 3); keyOf(2, 5); lockOf(0, 0); lockOf(2, 3); fits(0, 0); isBarred(2, 0); costFor(1, 2);
            cheapest(0, 0); cheapest(2, 2); length(); adds(); waves(); most(); mostAgain(); cover(true); cover(false);
            canBeOpen(2); isNeeded(0); isNeeded(2); porterOf(2, 1); ranked(0); ranked(2); faultPosition(); reason(0);
            reason(1); reason(2); character(0); character(14); meanFits(); openShare(); account(0); account(3); account(10);
            account(11); line(true); line(false); append('x'); append(59); save()
            """;
        for (String call : Runs.callsOf(asked)) {
            Twins.compare("questions change nothing", before, call);
        }
    }

    private static void shares() {
        Runs.check("promise 32: both as doubles, no locks, no fits, all fits", """
            meanFits() = throws ArithmeticException; key(1, 0) = 0; meanFits() = 0.0; lock(2) = 0; meanFits() = 0.0;
            lock(1) = 1; meanFits() = 1.0; key(3, 0) = 1; meanFits() = 1.5; key(0, 0) = 2; meanFits() = 1.0;
            bar(0, 1, true) = 1; meanFits() = 0.6666666666666666; undo() = 5; undo() = 4; undo() = 3; undo() = 2;
            undo() = 1; meanFits() = 0.0; undo() = 0; meanFits() = throws ArithmeticException
            """);
        Runs.check("promise 33: both as floats, none open, all open", """
            openShare() = throws ArithmeticException; lock(1) = 0; openShare() = 0.0; key(1, 0) = 0; wave() = 1;
            openShare() = 1.0; lock(1) = 1; openShare() = 0.5; lock(1) = 2; openShare() = 0.33333334; key(1, 0) = 1;
            wave() = 1; openShare() = 0.6666667; lock(8) = 3; lock(8) = 4; lock(8) = 5; openShare() = 0.33333334;
            lock(8) = 6; openShare() = 0.2857143; undo() = 7
            """);
    }

    private static void accounts() {
        String ten = """
            type("k1/0;k1/0;k1/0;k1/0;k1/0;k1/0;k1/0;k1/0;k1/0;k1/0"); commands() = 10;
            type("l1;l1;l1;l1;l1;l1;l1;l1;l1;l1"); commands() = 10;
            """;
        Runs.check("promise 34: the largest that there can be", ten + """
            account(0) = 10; account(1) = 10; account(2) = 0; account(3) = 100; account(4) = 0; wave() = 10;
            account(2) = 10; account(6) = 1; account(7) = 10; account(10) = 3
            """);
        Runs.check("promise 34: so far, also behind what it came from is over", """
            key(3, 0) = 0; lock(1) = 0; wave() = 1; take(0) = 0; wave() = 1; cut(0, 2) = 1; cut(0, 3) = 1; wave() = 1;
            slack(0) = 1; account(6) = 3; account(7) = 3; account(8) = 2; account(9) = 2; account(2) = 0; lockOf(0, 3) = 3
            """);
        Runs.check("promise 34: a wave of a text counts, a wave that is only asked for does not", """
            key(1, 0) = 0; lock(1) = 0; adds() = 1; waves() = 1; most() = 1; cover(true) = 0; account(6) = 0;
            account(7) = 0; lockOf(0, 3) = 0; type("w;t0;w"); commands() = 3; account(6) = 2; account(7) = 2;
            lockOf(0, 3) = 2; type("t0;w;w"); commands() = refused 10 1 2; account(6) = 2; account(7) = 2; lockOf(0, 3) = 2
            """);
    }

    /** What it is: an object is used for at most 512 calls, and the last of them answers as the first. */
    private static void manyCalls() {
        KeyWaves slacks = new KeyWaves();
        for (int call = 1; call <= 509; call++) {
            Runs.on(slacks, "call " + call, "slack(" + (call % 2 == 0 ? 6 : 0) + ") = 0");
        }
        Runs.on(slacks, "the last calls of 512", "account(10) = 8; undo() = 7; account(5) = 6");
        KeyWaves cuts = new KeyWaves();
        Runs.on(cuts, "promise 4", "key(0, 3) = 0");
        for (int call = 2; call <= 508; call++) {
            Runs.on(cuts, "call " + call, "cut(0, " + (call % 2 == 0 ? 63 : 0) + ") = 6");
        }
        Runs.on(cuts, "the last calls of 512", """
            keyOf(0, 5) = 3042; account(9) = 3042; porterOf(3, 2) = 3042; keyOf(0, 0) = 63
            """);
        KeyWaves puts = new KeyWaves();
        Runs.on(puts, "promise 7", "key(0, 3) = 0; lock(0) = 0");
        for (int call = 0; call < 254; call++) {
            Runs.on(puts, "promises 7 and 8, time " + call, "put(0, 0) = 1; take(0) = 0");
        }
        Runs.on(puts, "the last calls of 512", "lockOf(0, 3) = 254; wave() = 1");
        KeyWaves texts = new KeyWaves();
        for (int time = 0; time < 170; time++) {
            Runs.on(texts, "promise 26, time " + time, "append('w') = 1; append(59) = 2");
            Runs.on(texts, "promise 27, time " + time, "commands() = throws IllegalArgumentException");
        }
        Runs.on(texts, "the last calls of 512", "faultPosition() = 2; append('l') = 1");
        manyFallOut();
    }

    private static void manyFallOut() {
        KeyWaves lodge = new KeyWaves();
        for (int number = 0; number < 10; number++) {
            Runs.on(lodge, "promises 2 and 3", "key(1, 1) = " + number + "; lock(0) = " + number);
        }
        for (int time = 1; time <= 120; time++) {
            Runs.on(lodge, "promise 6, time " + time, "wave() = 10; slack(0) = 10; slack(6) = 0; account(8) = " + time * 10);
        }
        Runs.on(lodge, "promise 34", """
            account(6) = 120; account(7) = 1200; account(8) = 1200; lockOf(9, 3) = 120; account(2) = 0; wave() = 10;
            undo() = 7; account(8) = 1200; undo() = 6; undo() = 5; account(8) = 1190
            """);
    }

    private static void objectsApart() {
        KeyWaves one = new KeyWaves();
        KeyWaves other = new KeyWaves();
        Runs.on(one, "promise 1: one object", "key(1, 0) = 0; lock(1) = 0; put(0, 0) = 1; save() = 1; take(4) = refused 3 4 0");
        Runs.on(other, "promise 1: another object", """
            account(0) = 0; account(1) = 0; account(10) = 0; reason(0) = throws NoSuchElementException; restore() = throws
            IllegalStateException; undo() = throws IllegalStateException; lock(63) = 0; line(true) = 4
            """);
        Runs.on(one, "promise 1: one object", """
            lockOf(0, 0) = 1; account(2) = 1; character(0) = throws IndexOutOfBoundsException; reason(1) = 4; undo() = 2
            """);
    }
}
