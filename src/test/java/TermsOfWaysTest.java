/** "Terms", Ways, Waves, Covers and Details: each sentence that names a boundary case; promises 9, 10 and 16 to 23. */
final class TermsOfWaysTest {
    public static void main(String[] arguments) {
        beginnings();
        ends();
        circles();
        lengths();
        levels();
        lastLevels();
        numbersFirst();
        levelsInWaves();
        takenAtOnce();
        refusedWaves();
        counts();
        covers();
        openLocks();
        neededKeys();
        Runs.end("TermsOfWaysTest");
    }

    /** The key k fits the locks k and k - 1 alone, and is in the lock k - 1, for 1 to 10 keys; all else is barred. */
    private static String chain(int keys) {
        StringBuilder calls = new StringBuilder();
        int bars = 0;
        for (int number = 0; number < keys; number++) {
            calls.append("key(1, 0) = " + number + "; lock(1) = " + number + "; ");
        }
        for (int key = 0; key < keys; key++) {
            for (int lock = 0; lock < keys; lock++) {
                if (lock != key && lock != key - 1) {
                    bars++;
                    calls.append("bar(" + key + ", " + lock + ", true) = " + bars + "; ");
                }
            }
        }
        for (int key = 1; key < keys; key++) {
            calls.append("put(" + key + ", " + (key - 1) + ") = " + key + "; ");
        }
        return calls.toString();
    }

    private static void beginnings() {
        Runs.check("Ways: a way begins with a key that is in no lock", """
            key(3, 0) = 0; lock(1) = 0; lock(2) = 1; put(0, 0) = 1; length() = throws NoSuchElementException; adds() = 0;
            waves() = 0; wave() = refused 10 1 0; keyOf(0, 3) = -1; cover(true) = 0; cover(false) = 1; most() = 1;
            mostAgain() = 1; take(0) = 0; length() = 1; adds() = 1; keyOf(0, 3) = 0
            """);
        Runs.check("Ways: it goes on to a lock that it fits", """
            key(1, 0) = 0; lock(2) = 0; length() = throws NoSuchElementException; wave() = refused 10 0 0; lock(1) = 1;
            length() = 1; bar(0, 1, true) = 1; length() = throws NoSuchElementException; slack(0) = 0; bar(0, 1, false) = 0;
            length() = 1; cut(0, 3) = 1; length() = throws NoSuchElementException
            """);
        Runs.check("Ways: and is not in", """
            key(1, 0) = 0; key(2, 0) = 1; lock(1) = 0; put(0, 0) = 1; keyOf(0, 3) = -1; keyOf(1, 3) = 0;
            length() = throws NoSuchElementException; cover(true) = 0; cover(false) = 1
            """);
        Runs.check("Ways: no keys, no locks", """
            length() = throws NoSuchElementException; wave() = refused 10 0 0; adds() = 0; waves() = 0; most() = 0;
            mostAgain() = 0; cover(true) = 0; cover(false) = 0; lock(0) = 0; length() = throws NoSuchElementException;
            wave() = refused 10 0 0; adds() = 0; waves() = 0; most() = 0; mostAgain() = 0; cover(true) = 0;
            cover(false) = 0; canBeOpen(0) = false
            """);
        Runs.check("Ways: keys and no locks", """
            key(0, 0) = 0; key(63, 0) = 1; length() = throws NoSuchElementException; wave() = refused 10 0 0; adds() = 0;
            waves() = 0; most() = 0; mostAgain() = 0; cover(true) = 0; cover(false) = 0; isNeeded(0) = false;
            keyOf(0, 3) = 0; keyOf(1, 3) = 0; keyOf(0, 4) = 0; lock(0) = 0; length() = 1
            """);
    }

    private static void ends() {
        Runs.check("Ways: it ends at a lock that is not open, and over open locks it goes on", """
            key(1, 0) = 0; key(3, 0) = 1; lock(1) = 0; put(1, 0) = 1; length() = throws NoSuchElementException;
            wave() = refused 10 1 0; lock(4) = 1; length() = throws NoSuchElementException; lock(2) = 2; length() = 2;
            adds() = 1; wave() = 1; keyOf(0, 2) = 0; keyOf(1, 2) = 2; lockOf(1, 1) = -1
            """);
        Runs.check("Ways: each of its keys is put into the lock behind it, so that one lock more is open", """
            key(1, 0) = 0; key(3, 0) = 1; key(6, 0) = 2; lock(1) = 0; lock(2) = 1; lock(4) = 2; put(1, 0) = 1;
            put(2, 1) = 2; wave() = 1; keyOf(0, 2) = 0; keyOf(1, 2) = 1; keyOf(2, 2) = 2; lockOf(0, 1) = 0;
            lockOf(1, 1) = 1; lockOf(2, 1) = 2; account(2) = 3; account(7) = 1; account(8) = 0
            """);
    }

    private static void circles() {
        Runs.check("Ways: no key stands on it twice", """
            key(1, 0) = 0; key(3, 0) = 1; key(3, 0) = 2; lock(1) = 0; lock(2) = 1; put(1, 0) = 1; put(2, 1) = 2;
            keyOf(0, 3) = 0; keyOf(1, 3) = 1; keyOf(2, 3) = 2; length() = throws NoSuchElementException; adds() = 0;
            waves() = 0; wave() = refused 10 2 0; most() = 2; mostAgain() = 2; cover(true) = 3; cover(false) = 0;
            isNeeded(0) = false; isNeeded(1) = false; isNeeded(2) = false; canBeOpen(1) = true
            """);
        Runs.check("Waves: a circle of keys to which no way leads has no levels", """
            key(3, 0) = 0; key(3, 0) = 1; lock(1) = 0; lock(2) = 1; lock(3) = 2; put(0, 0) = 1; put(1, 1) = 2;
            key(4, 0) = 2; keyOf(0, 3) = -1; keyOf(1, 3) = -1; keyOf(2, 3) = 0; length() = throws NoSuchElementException;
            wave() = refused 10 2 0; cover(true) = 0; cover(false) = 3; key(1, 0) = 3; keyOf(0, 3) = 1; keyOf(1, 3) = 2;
            length() = 2; wave() = 1; keyOf(3, 2) = 0; keyOf(0, 2) = 2; keyOf(1, 2) = 1
            """);
    }

    private static void lengths() {
        for (int keys = 1; keys <= 10; keys++) {
            StringBuilder levels = new StringBuilder();
            StringBuilder after = new StringBuilder();
            for (int key = 0; key < keys; key++) {
                levels.append("keyOf(" + key + ", 3) = " + key + "; ");
                after.append("lockOf(" + key + ", 1) = " + key + "; lockOf(" + key + ", 3) = " + (key < keys - 1 ? 2 : 1) + "; ");
            }
            Runs.check("Ways, promise 16: its length is the number of its keys, " + keys, chain(keys) + "length() = " + keys
                + "; " + levels + "adds() = 1; waves() = 1; most() = " + keys + "; mostAgain() = " + keys
                + "; cover(true) = 0; cover(false) = " + ((1 << keys) - 1) + "; wave() = 1; account(2) = " + keys
                + "; account(6) = 1; account(7) = 1; " + after + "length() = throws NoSuchElementException; wave() = refused 10 "
                + keys + " 0");
        }
        Runs.check("promise 16: the shortest of several ways", """
            key(3, 0) = 0; key(5, 0) = 1; lock(1) = 0; lock(4) = 1; put(1, 0) = 1; length() = 2; lock(2) = 2; length() = 1;
            bar(0, 2, true) = 1; length() = 2; take(1) = 0; length() = 1
            """);
    }

    private static void levels() {
        Runs.check("Waves, promise 10: the level of a key that is in no lock is 0", """
            key(1, 0) = 0; key(0, 0) = 1; keyOf(0, 3) = 0; keyOf(1, 3) = 0; lock(3) = 0; keyOf(0, 3) = 0; lock(0) = 1;
            put(1, 1) = 1; keyOf(1, 3) = 1; bar(0, 1, true) = 1; keyOf(1, 3) = -1; take(1) = 1; keyOf(1, 3) = 0
            """);
        Runs.check("Waves, promise 10: 1 more than the least level", """
            key(1, 0) = 0; key(7, 0) = 1; key(7, 0) = 2; key(2, 0) = 3; lock(1) = 0; lock(2) = 1; put(1, 0) = 1;
            put(2, 1) = 2; keyOf(1, 3) = 1; keyOf(2, 3) = 1; bar(3, 1, true) = 1; keyOf(2, 3) = 2; bar(1, 1, true) = 2;
            keyOf(2, 3) = -1; bar(3, 1, false) = 1; keyOf(2, 3) = 1; bar(0, 0, true) = 2; keyOf(1, 3) = 2
            """);
        Runs.check("Waves, promise 10: a key that fits its lock and is not in it", """
            key(1, 0) = 0; lock(1) = 0; put(0, 0) = 1; keyOf(0, 3) = -1; key(1, 0) = 1; keyOf(0, 3) = 1;
            bar(1, 0, true) = 1; keyOf(0, 3) = -1; key(1, 0) = 2; lock(1) = 1; put(2, 1) = 2; keyOf(0, 3) = 2;
            keyOf(2, 3) = 1; bar(1, 1, true) = 2; keyOf(0, 3) = -1; keyOf(2, 3) = -1
            """);
        Runs.check("Waves, promise 10: levels are told beyond the last level", """
            key(1, 0) = 0; key(3, 0) = 1; key(6, 0) = 2; key(8, 0) = 3; lock(1) = 0; lock(2) = 1; lock(8) = 2;
            put(1, 0) = 1; put(2, 1) = 2; length() = 1; keyOf(1, 3) = 1; keyOf(2, 3) = 2; adds() = 1; waves() = 1
            """);
    }

    private static void lastLevels() {
        Runs.check("Waves: the last level is the least one of a key that fits a lock that is not open", """
            key(1, 0) = 0; key(3, 0) = 1; key(6, 0) = 2; lock(1) = 0; lock(2) = 1; put(1, 0) = 1; put(2, 1) = 2;
            length() = throws NoSuchElementException; lock(4) = 2; length() = 3; lock(3) = 3; length() = 2; lock(1) = 4;
            length() = 1
            """);
        Runs.check("Waves: a key without a level gives no last level", """
            key(3, 0) = 0; key(4, 0) = 1; lock(1) = 0; lock(2) = 1; put(0, 0) = 1; length() = throws
            NoSuchElementException; wave() = refused 10 1 0; adds() = 0; cut(1, 1) = 2; length() = 2; adds() = 1
            """);
        Runs.check("Waves: a key beyond the last level is not come to", """
            key(1, 0) = 0; key(4, 0) = 1; key(3, 0) = 2; lock(1) = 0; lock(2) = 1; lock(4) = 2; put(2, 0) = 1;
            length() = 1; adds() = 1; waves() = 2; wave() = 1; keyOf(0, 2) = -1; keyOf(1, 2) = 2; keyOf(2, 2) = 0;
            length() = 2; adds() = 1; wave() = 1; keyOf(0, 2) = 0; keyOf(2, 2) = 1; account(6) = 2; account(7) = 2
            """);
    }

    private static void numbersFirst() {
        Runs.check("Waves: keys are gone through by their numbers", """
            key(1, 0) = 0; key(1, 0) = 1; key(1, 0) = 2; lock(1) = 0; lock(1) = 1; wave() = 2; keyOf(0, 2) = 0;
            keyOf(1, 2) = 1; keyOf(2, 2) = -1; take(0) = 0; wave() = 1; keyOf(0, 2) = 0; keyOf(2, 2) = -1
            """);
        Runs.check("Waves: locks are tried by their numbers", """
            key(15, 0) = 0; lock(16) = 0; lock(8) = 1; lock(1) = 2; lock(4) = 3; wave() = 1; keyOf(0, 2) = 1;
            take(0) = 1; bar(0, 1, true) = 1; wave() = 1; keyOf(0, 2) = 2; take(0) = 2; key(9, 0) = 1; put(1, 2) = 1;
            length() = 1; wave() = 1; keyOf(0, 2) = 3; keyOf(1, 2) = 2
            """);
        Runs.check("Waves: the key with the lower number takes what the higher one needs", """
            key(3, 0) = 0; key(1, 0) = 1; lock(1) = 0; lock(2) = 1; adds() = 1; waves() = 2; wave() = 1; keyOf(0, 2) = 0;
            keyOf(1, 2) = -1; wave() = 1; keyOf(0, 2) = 1; keyOf(1, 2) = 0; wave() = refused 10 2 0
            """);
    }

    private static void levelsInWaves() {
        Runs.check("Waves: a key in a lock with the same level is not come to", """
            key(15, 0) = 0; key(3, 0) = 1; key(6, 0) = 2; lock(1) = 0; lock(2) = 1; lock(4) = 2; put(1, 0) = 1;
            put(2, 1) = 2; keyOf(1, 3) = 1; keyOf(2, 3) = 1; bar(0, 2, true) = 1; length() = 2; wave() = 1;
            keyOf(0, 2) = 1; keyOf(1, 2) = 0; keyOf(2, 2) = 2
            """);
        Runs.check("Waves: a key in a lock with a lower level is not come to", """
            key(3, 0) = 0; key(5, 0) = 1; key(22, 0) = 2; key(10, 0) = 3; key(40, 0) = 4; lock(1) = 0; lock(2) = 1;
            lock(4) = 2; lock(8) = 3; lock(16) = 4; lock(32) = 5; put(1, 0) = 1; put(3, 1) = 2; put(2, 2) = 3;
            put(4, 3) = 4; keyOf(0, 3) = 0; keyOf(1, 3) = 1; keyOf(2, 3) = 2; keyOf(3, 3) = 1; keyOf(4, 3) = 2;
            length() = 3; adds() = 1; wave() = 1; keyOf(0, 2) = 0; keyOf(1, 2) = 2; keyOf(2, 2) = 4; keyOf(3, 2) = 1;
            keyOf(4, 2) = 3; lockOf(5, 1) = -1; account(2) = 5
            """);
        Runs.check("Waves: from a key from which there is none, the next lock is tried", """
            key(3, 0) = 0; key(9, 0) = 1; key(6, 0) = 2; lock(1) = 0; lock(2) = 1; lock(4) = 2; put(1, 0) = 1;
            put(2, 1) = 2; length() = 2; adds() = 1; wave() = 1; keyOf(0, 2) = 1; keyOf(1, 2) = 0; keyOf(2, 2) = 2
            """);
        Runs.check("Waves: given up in this wave, and looked from again in the next one", """
            key(1, 0) = 0; key(1, 0) = 1; key(4, 0) = 2; key(3, 0) = 3; lock(1) = 0; lock(4) = 1; put(3, 0) = 1;
            length() = 1; wave() = 1; keyOf(2, 2) = 1; keyOf(0, 2) = -1; wave() = refused 10 2 0; lock(2) = 2;
            length() = 2; adds() = 1; wave() = 1; keyOf(0, 2) = 0; keyOf(3, 2) = 2; keyOf(1, 2) = -1;
            wave() = refused 10 3 0
            """);
        Runs.check("Waves: given up in a wave, and come to in the next one, the key 0", """
            key(2, 0) = 0; key(1, 0) = 1; lock(1) = 0; wave() = 1; keyOf(0, 2) = -1; lock(2) = 1; lock(2) = 2; put(0, 1) = 2;
            key(2, 0) = 2; bar(2, 2, true) = 1; length() = 2; adds() = 1; wave() = 1; keyOf(2, 2) = 1; keyOf(0, 2) = 2
            """);
        Runs.check("Waves: given up in a wave, and come to in the next one, the key 9", """
            key(2, 0) = 0; type("k1/0;k0/0;k0/0;k0/0;k0/0;k0/0;k0/0;k0/0;k4/0"); commands() = 9; lock(1) = 0; wave() = 1;
            keyOf(9, 2) = -1; lock(4) = 1; lock(4) = 2; put(9, 1) = 2; cut(0, 4) = 2; bar(0, 2, true) = 1; length() = 2;
            adds() = 1; wave() = 1; keyOf(0, 2) = 1; keyOf(9, 2) = 2
            """);
        Runs.check("Waves: the key that is in it then: the second key finds the first one there, and tries the next lock", """
            key(1, 0) = 0; key(3, 0) = 1; key(5, 0) = 2; key(10, 0) = 3; lock(1) = 0; lock(2) = 1; lock(4) = 2;
            lock(8) = 3; put(2, 0) = 1; put(3, 1) = 2; keyOf(2, 3) = 1; keyOf(3, 3) = 1; length() = 2; adds() = 2;
            wave() = 2; keyOf(0, 2) = 0; keyOf(1, 2) = 1; keyOf(2, 2) = 2; keyOf(3, 2) = 3; account(6) = 1; account(7) = 2
            """);
        Runs.check("Waves: the second key finds the first one there, and has no way in this wave", """
            key(1, 0) = 0; key(1, 0) = 1; key(5, 0) = 2; lock(1) = 0; lock(4) = 1; lock(4) = 2; put(2, 0) = 1;
            length() = 2; adds() = 1; wave() = 1; keyOf(0, 2) = 0; keyOf(1, 2) = -1; keyOf(2, 2) = 1;
            length() = throws NoSuchElementException; wave() = refused 10 2 0
            """);
        Runs.check("Waves: the second key comes to a key from which the only end is taken, and goes on to the next lock", """
            key(1, 0) = 0; key(6, 0) = 1; key(9, 0) = 2; key(10, 0) = 3; key(20, 0) = 4; lock(1) = 0; lock(2) = 1;
            lock(4) = 2; lock(8) = 3; lock(16) = 4; put(2, 0) = 1; put(3, 1) = 2; put(4, 2) = 3; length() = 2;
            adds() = 2; wave() = 2; keyOf(0, 2) = 0; keyOf(2, 2) = 3; keyOf(1, 2) = 2; keyOf(4, 2) = 4; keyOf(3, 2) = 1;
            account(2) = 5; account(7) = 2
            """);
        Runs.check("Waves, promise 10: behind a wave the levels are those of the keys in their locks then", """
            key(1, 0) = 0; key(3, 0) = 1; key(6, 0) = 2; key(1, 0) = 3; lock(1) = 0; lock(2) = 1; lock(4) = 2; put(1, 0) = 1;
            put(2, 1) = 2; keyOf(0, 3) = 0; keyOf(1, 3) = 1; keyOf(2, 3) = 2; keyOf(3, 3) = 0; adds() = 1; wave() = 1;
            keyOf(0, 3) = 1; keyOf(1, 3) = -1; keyOf(2, 3) = -1; keyOf(3, 3) = 0; keyOf(1, 2) = 1; keyOf(2, 2) = 2
            """);
    }

    private static void takenAtOnce() {
        Runs.check("Waves: each way that is found is taken at once", """
            key(1, 0) = 0; key(3, 0) = 1; lock(1) = 0; lock(2) = 1; adds() = 2; wave() = 2; keyOf(0, 2) = 0;
            keyOf(1, 2) = 1; lockOf(0, 3) = 1; lockOf(1, 3) = 1
            """);
        Runs.check("Waves and Details: a key that is put into a lock in a wave has its level still, as at the beginning", """
            key(3, 0) = 0; key(1, 0) = 1; key(1, 0) = 2; lock(1) = 0; lock(2) = 1; length() = 1; adds() = 1; wave() = 1;
            keyOf(0, 2) = 0; keyOf(1, 2) = -1; keyOf(2, 2) = -1; keyOf(0, 3) = 1; length() = 2; adds() = 1; wave() = 1;
            keyOf(0, 2) = 1; keyOf(1, 2) = 0; keyOf(2, 2) = -1; keyOf(0, 3) = -1; keyOf(1, 3) = 1
            """);
    }

    private static void refusedWaves() {
        Runs.check("Reasons, promise 9: no wave could add anything, and how many locks are open", """
            wave() = refused 10 0 0; key(1, 0) = 0; key(1, 0) = 1; lock(1) = 0; wave() = 1; wave() = refused 10 1 0;
            account(6) = 1; account(7) = 1; lock(1) = 1; wave() = 1; wave() = refused 10 2 0; account(6) = 2;
            account(7) = 2; account(10) = 6
            """);
        Runs.check("promise 9: one way, and ten", """
            key(0, 0) = 0; type("k0/0;k0/0;k0/0;k0/0;k0/0;k0/0;k0/0;k0/0;k0/0"); commands() = 9; lock(0) = 0; adds() = 1;
            wave() = 1; undo() = 3; type("l0;l0;l0;l0;l0;l0;l0;l0;l0"); commands() = 9; adds() = 10; wave() = 10;
            account(2) = 10; account(6) = 1; account(7) = 10; wave() = refused 10 10 0; openShare() = 1.0
            """);
    }

    private static void counts() {
        Runs.check("promises 17 and 18: 0 if there are none", """
            adds() = 0; waves() = 0; key(1, 0) = 0; adds() = 0; waves() = 0; lock(1) = 0; adds() = 1; waves() = 1;
            wave() = 1; adds() = 0; waves() = 0; account(6) = 1; account(7) = 1
            """);
        Runs.check("promise 18: one wave after the other", """
            key(3, 0) = 0; key(1, 0) = 1; key(12, 0) = 2; key(4, 0) = 3; lock(1) = 0; lock(2) = 1; lock(4) = 2;
            lock(8) = 3; adds() = 2; waves() = 2; most() = 4; mostAgain() = 4; wave() = 2; waves() = 1; adds() = 2;
            wave() = 2; waves() = 0; most() = 4; account(6) = 2; account(7) = 4
            """);
        Runs.check("promises 19 and 20: as many locks as are open already", """
            key(1, 0) = 0; key(2, 0) = 1; lock(1) = 0; lock(4) = 1; put(0, 0) = 1; most() = 1; mostAgain() = 1;
            bar(0, 0, true) = 1; most() = 0; mostAgain() = 0; bar(0, 0, false) = 0; most() = 1; mostAgain() = 1;
            account(2) = 0
            """);
        Runs.check("promise 20: a way over all ten keys, with the tenth one", lineOfTen() + """
            mostAgain() = 10; most() = 10; isNeeded(0) = true; isNeeded(9) = true; adds() = 9; waves() = 2; wave() = 9;
            keyOf(9, 2) = -1; keyOf(9, 3) = 0; keyOf(8, 3) = 9; length() = 10; mostAgain() = 10; wave() = 1;
            keyOf(9, 2) = 0; keyOf(0, 2) = 1; keyOf(8, 2) = 9; mostAgain() = 10; bar(4, 5, true) = 82; most() = 9;
            mostAgain() = 9; isNeeded(9) = false; isNeeded(5) = true
            """);
        Runs.check("promise 20: from no key in any lock on, although the keys are in other locks", """
            key(3, 0) = 0; key(6, 0) = 1; key(1, 0) = 2; lock(1) = 0; lock(2) = 1; lock(4) = 2; put(0, 0) = 1;
            put(1, 1) = 2; most() = 3; mostAgain() = 3; keyOf(0, 2) = 0; keyOf(1, 2) = 1; lockOf(0, 3) = 1; account(2) = 2
            """);
    }

    /** The key k fits the locks k and k + 1 alone, but for the key 9, which fits the lock 0 alone; all else is barred. */
    private static String lineOfTen() {
        StringBuilder calls = new StringBuilder();
        int bars = 0;
        for (int number = 0; number < 10; number++) {
            calls.append("key(1, 0) = " + number + "; lock(1) = " + number + "; ");
        }
        for (int pair = 0; pair < 100; pair++) {
            int key = pair / 10;
            int lock = pair % 10;
            boolean isFit = key == 9 ? lock == 0 : lock == key || lock == key + 1;
            if (!isFit) {
                bars++;
                calls.append("bar(" + key + ", " + lock + ", true) = " + bars + "; ");
            }
        }
        return calls.toString();
    }

    private static void covers() {
        Runs.check("Covers, promise 21: as when no wave could add anything any more", """
            key(1, 0) = 0; key(1, 0) = 1; key(6, 0) = 2; lock(1) = 0; lock(2) = 1; lock(4) = 2; cover(true) = 1;
            cover(false) = 4; account(2) = 0; account(6) = 0; wave() = 2; cover(true) = 1; cover(false) = 4;
            take(2) = 1; cover(true) = 1; cover(false) = 4
            """);
        Runs.check("Covers, promise 21: as when no wave could add anything any more, which is behind two waves", """
            key(3, 0) = 0; key(1, 0) = 1; lock(1) = 0; lock(2) = 1; waves() = 2; cover(true) = 0; cover(false) = 3;
            wave() = 1; waves() = 1; cover(true) = 0; cover(false) = 3; wave() = 1; waves() = 0; cover(true) = 0;
            cover(false) = 3; key(2, 0) = 2; waves() = 0; cover(true) = 3; cover(false) = 0
            """);
        Runs.check("Covers, promise 21: as when no wave could add anything any more, which is behind three waves", """
            key(3, 0) = 0; key(1, 0) = 1; key(12, 0) = 2; key(24, 0) = 3; key(4, 0) = 4; lock(1) = 0; lock(2) = 1;
            lock(4) = 2; lock(8) = 3; lock(16) = 4; waves() = 3; cover(true) = 0; cover(false) = 31; wave() = 3;
            cover(true) = 0; cover(false) = 31; wave() = 1; cover(true) = 0; cover(false) = 31; wave() = 1;
            cover(true) = 0; cover(false) = 31
            """);
        Runs.check("Covers, promise 21: all locks that can stand on the beginning of a way, also the ones further on", """
            key(1, 0) = 0; key(3, 0) = 1; key(6, 0) = 2; lock(1) = 0; lock(2) = 1; put(1, 0) = 1; put(2, 1) = 2;
            cover(true) = 3; cover(false) = 0; bar(1, 1, true) = 1; cover(true) = 1; cover(false) = 4;
            bar(0, 0, true) = 2; cover(true) = 0; cover(false) = 6
            """);
        Runs.check("Covers, promise 21: a key that is in no lock is not in it", """
            key(1, 0) = 0; key(1, 0) = 1; lock(1) = 0; cover(true) = 1; cover(false) = 0; key(2, 0) = 2;
            cover(true) = 1; cover(false) = 0; lock(2) = 1; cover(true) = 1; cover(false) = 4
            """);
        Runs.check("Covers, promise 21: the lock in which its own key is alone is not on the beginning of a way", """
            key(1, 0) = 0; lock(1) = 0; put(0, 0) = 1; cover(true) = 0; cover(false) = 1; take(0) = 0; cover(true) = 0;
            cover(false) = 1; key(1, 0) = 1; cover(true) = 1; cover(false) = 0
            """);
        Runs.check("Details: the beginning of a way need not lead to an end", """
            key(1, 0) = 0; key(3, 0) = 1; lock(3) = 0; lock(1) = 1; put(1, 1) = 1; lock(1) = 2; wave() = 1;
            keyOf(0, 2) = 2; cover(true) = 0; cover(false) = 3; key(1, 0) = 2; cover(true) = 0; cover(false) = 7;
            bar(1, 0, true) = 1; cover(true) = 6; cover(false) = 0
            """);
        StringBuilder ten = new StringBuilder();
        for (int number = 0; number < 10; number++) {
            ten.append("key(0, 0) = " + number + "; lock(0) = " + number + "; ");
        }
        Runs.check("Covers, promise 21: bit k for the number k, all ten", ten + """
            cover(true) = 0; cover(false) = 1023; wave() = 10; cover(true) = 0; cover(false) = 1023; cut(9, 1) = 1;
            slack(0) = 1; cover(true) = 0; cover(false) = 511; undo() = 7; undo() = 6; take(0) = 0; cover(true) = 0;
            cover(false) = 1023
            """);
        Runs.check("Covers, promise 21: bit k for the number k, the lock 9", ten + """
            undo() = 7; undo() = 6; lock(63) = 9; key(63, 0) = 9; cover(true) = 0; cover(false) = 1023; cut(8, 63) = 6;
            cover(true) = 0; cover(false) = 1023; slack(0) = 0; cover(true) = 512; cover(false) = 255
            """);
    }

    private static void openLocks() {
        Runs.check("promise 22: while as many locks are open as can be", """
            key(1, 0) = 0; lock(1) = 0; lock(1) = 1; lock(2) = 2; canBeOpen(0) = true; canBeOpen(1) = true;
            canBeOpen(2) = false; put(0, 0) = 1; canBeOpen(0) = true; canBeOpen(1) = true; bar(0, 0, true) = 1;
            canBeOpen(0) = false; canBeOpen(1) = true; bar(0, 1, true) = 2; canBeOpen(1) = false
            """);
        Runs.check("promise 22: a lock that only a key fits that is needed elsewhere", """
            key(3, 0) = 0; lock(1) = 0; lock(2) = 1; key(1, 0) = 1; canBeOpen(0) = true; canBeOpen(1) = true; wave() = 1;
            canBeOpen(1) = true; wave() = 1; canBeOpen(0) = true; canBeOpen(1) = true; lock(2) = 2; canBeOpen(2) = true
            """);
    }

    private static void neededKeys() {
        Runs.check("promise 23: fewer locks could be open without it", """
            key(1, 0) = 0; isNeeded(0) = false; lock(1) = 0; isNeeded(0) = true; lock(1) = 1; isNeeded(0) = true;
            key(1, 0) = 1; isNeeded(0) = true; isNeeded(1) = true; key(1, 0) = 2; isNeeded(0) = false;
            isNeeded(1) = false; isNeeded(2) = false; put(2, 1) = 1; isNeeded(2) = false; bar(0, 0, true) = 1;
            isNeeded(2) = false; bar(0, 1, true) = 2; isNeeded(0) = false; isNeeded(1) = true; isNeeded(2) = true
            """);
        Runs.check("promise 23: a key that fits nothing, and one that alone fits a lock", """
            key(1, 0) = 0; key(2, 0) = 1; key(0, 0) = 2; lock(1) = 0; lock(2) = 1; isNeeded(0) = true; isNeeded(1) = true;
            isNeeded(2) = false; account(2) = 0; lock(0) = 2; isNeeded(2) = true; isNeeded(0) = true
            """);
    }
}
