/** "Terms", Keys and locks, Open locks, Cutting: each sentence that names a boundary case; promises 2 to 8, 12 to 14. */
final class TermsOfKeysTest {
    private static final int SETS = 64;

    public static void main(String[] arguments) {
        wardsAndPins();
        tenKeysAndLocks();
        porters();
        fitting();
        allFits();
        slacks();
        barredPairs();
        oneKeyOneLock();
        fallingOut();
        cuttingCosts();
        costs();
        allCosts();
        places();
        Runs.end("TermsOfKeysTest");
    }

    private static void wardsAndPins() {
        for (int bit = 0; bit < 6; bit++) {
            int one = 1 << bit;
            Runs.check("Keys and locks: bit k for the number k, ward and pin " + bit, "key(" + one + ", 0) = 0; key("
                + (63 - one) + ", 0) = 1; lock(" + one + ") = 0; lock(63) = 1; keyOf(0, 0) = " + one
                + "; lockOf(0, 0) = " + one + "; fits(0, 0) = true; fits(1, 0) = false; fits(0, 1) = false; "
                + "fits(1, 1) = false; put(1, 0) = refused 6 1 0; put(0, 1) = refused 6 5 0; put(1, 1) = refused 6 1 0; "
                + "costFor(1, 0) = 1; costFor(0, 1) = 5; cut(1, 63) = 1; put(1, 1) = 1; put(0, 0) = 2");
        }
        Runs.check("Keys and locks, promises 2, 3 and 4: sets are told by numbers from 0 to 63", """
            key(-1, 0) = refused 1 0 0; key(64, 0) = refused 1 0 0; key(0, 0) = 0; key(63, 0) = 1; lock(-1) = refused 1 0 0;
            lock(64) = refused 1 0 0; lock(0) = 0; lock(63) = 1; cut(0, -1) = refused 1 0 0; cut(0, 64) = refused 1 0 0;
            cut(0, 63) = 6; cut(1, 0) = 6; keyOf(0, 0) = 63; keyOf(1, 0) = 0; lockOf(0, 0) = 0; lockOf(1, 0) = 63
            """);
    }

    private static void tenKeysAndLocks() {
        StringBuilder keys = new StringBuilder();
        StringBuilder locks = new StringBuilder();
        for (int number = 0; number < 10; number++) {
            keys.append("account(0) = " + number + "; key(" + number * 7 + ", 1) = " + number + "; ");
            locks.append("account(1) = " + number + "; lock(" + number * 7 + ") = " + number + "; ");
        }
        Runs.check("Keys and locks, promise 2: at most 10 keys come, numbered from 0", keys + """
            account(0) = 10; key(1, 1) = refused 2 10 0; account(0) = 10; keyOf(9, 0) = 63; keyOf(0, 0) = 0; undo() = 7;
            account(0) = 9; key(5, 2) = 9; keyOf(9, 0) = 5; key(1, 1) = refused 2 10 0; lock(0) = 0
            """);
        Runs.check("Keys and locks, promise 3: at most 10 locks come, numbered from 0", locks + """
            account(1) = 10; lock(1) = refused 2 10 0; account(1) = 10; lockOf(9, 0) = 63; lockOf(0, 0) = 0; undo() = 7;
            account(1) = 9; lock(5) = 9; lockOf(9, 0) = 5; lock(1) = refused 2 10 0; key(0, 0) = 0
            """);
        Runs.check("Reasons, promise 2: 1 before 2", keys + """
            key(64, 1) = refused 1 0 0; key(1, 4) = refused 1 0 0; key(-1, -1) = refused 1 0 0; key(1, 1) = refused 2 10 0
            """);
        Runs.check("Reasons, promise 3: 1 before 2", locks + """
            lock(64) = refused 1 0 0; lock(-1) = refused 1 0 0; lock(1) = refused 2 10 0
            """);
    }

    private static void porters() {
        Runs.check("Keys and locks, promise 2: a porter, 0 to 3", """
            key(1, -1) = refused 1 0 0; key(1, 4) = refused 1 0 0; key(1, 0) = 0; key(1, 3) = 1; keyOf(0, 1) = 0;
            keyOf(1, 1) = 3; porterOf(0, 0) = 1; porterOf(1, 0) = 0; porterOf(2, 0) = 0; porterOf(3, 0) = 1
            """);
        Runs.check("promise 24: a porter has no key on the ring, and all ten", """
            type("k1/2;k1/2;k1/2;k1/2;k1/2;k1/2;k1/2;k1/2;k1/2;k1/2"); commands() = 10; porterOf(2, 0) = 10;
            porterOf(0, 0) = 0; porterOf(1, 0) = 0; porterOf(3, 0) = 0; porterOf(2, 1) = 0; porterOf(2, 2) = 0;
            type("l1;l1;l1;l1;l1;l1;l1;l1;l1;l1;w"); commands() = 11; porterOf(2, 1) = 10; porterOf(3, 1) = 0;
            slack(0) = 0; cut(9, 62) = 6; porterOf(2, 1) = 9; porterOf(2, 2) = 6; porterOf(0, 2) = 0
            """);
    }

    private static void fitting() {
        Runs.check("Keys and locks, promise 12: a ward for each of its pins", """
            key(7, 0) = 0; lock(7) = 0; lock(15) = 1; lock(0) = 2; lock(4) = 3; lock(8) = 4; fits(0, 0) = true;
            fits(0, 1) = false; fits(0, 2) = true; fits(0, 3) = true; fits(0, 4) = false
            """);
        Runs.check("Keys and locks, promise 12: no ward and no pin", """
            key(0, 0) = 0; lock(0) = 0; lock(1) = 1; fits(0, 0) = true; fits(0, 1) = false; slack(0) = 0;
            fits(0, 0) = true; put(0, 0) = 1; lockOf(0, 1) = 0; put(0, 1) = refused 8 0 0; keyOf(0, 4) = 1
            """);
        for (int slack = 0; slack < 6; slack++) {
            int most = (1 << slack) - 1;
            Runs.check("Keys and locks, promise 12: no more wards than pins and the slack together, slack " + slack,
                "slack(" + slack + ") = 0; key(" + most + ", 0) = 0; key(" + (2 * most + 1) + ", 0) = 1; lock(0) = 0; "
                + "lock(1) = 1; fits(0, 0) = true; fits(1, 0) = false; fits(1, 1) = true; put(1, 0) = refused 6 0 0; "
                + "put(0, 0) = 1; costFor(0, 0) = 0; costFor(1, 0) = 1; put(1, 1) = 2");
        }
    }

    /** Tells for each set of wards, each set of pins and each slack whether they fit. */
    private static void allFits() {
        for (int first = 0; first < SETS; first += 10) {
            for (int second = 0; second < SETS; second += 10) {
                for (int slack = 0; slack <= 6; slack++) {
                    KeyWaves lodge = tenByTen(first, second, slack);
                    for (int wards = first; wards < first + 10 && wards < SETS; wards++) {
                        for (int pins = second; pins < second + 10 && pins < SETS; pins++) {
                            String name = "promise 12: " + wards + " fits " + pins + " with the slack " + slack;
                            Runs.same(name, Runs.use(lodge).fits(wards - first, pins - second), isFit(wards, pins, slack));
                        }
                    }
                }
            }
        }
    }

    private static KeyWaves tenByTen(int first, int second, int slack) {
        KeyWaves lodge = new KeyWaves();
        for (int i = 0; i < 10; i++) {
            if (first + i < SETS) {
                Runs.use(lodge).key(first + i, 0);
            }
            if (second + i < SETS) {
                Runs.use(lodge).lock(second + i);
            }
        }
        if (slack < 6) {
            Runs.use(lodge).slack(slack);
        }
        return lodge;
    }

    private static boolean isFit(int wards, int pins, int slack) {
        int wardCount = 0;
        int pinCount = 0;
        for (int number = 0; number < 6; number++) {
            boolean hasWard = wards / (1 << number) % 2 == 1;
            boolean hasPin = pins / (1 << number) % 2 == 1;
            wardCount += hasWard ? 1 : 0;
            pinCount += hasPin ? 1 : 0;
            if (hasPin && !hasWard) {
                return false;
            }
        }
        return wardCount <= pinCount + slack;
    }

    private static void slacks() {
        Runs.check("Keys and locks, promise 6: the slack is from 0 to 6, at first 6", """
            account(5) = 6; slack(6) = refused 5 0 0; slack(7) = refused 1 0 0; slack(-1) = refused 1 0 0; slack(0) = 0;
            account(5) = 0; slack(0) = refused 5 0 0; slack(-1) = refused 1 0 0; slack(7) = refused 1 0 0; slack(6) = 0;
            account(5) = 6; slack(5) = 0; account(5) = 5; slack(1) = 0; account(5) = 1; account(10) = 4
            """);
        Runs.check("Keys and locks: with the slack 6 each lock without pins fits, with the slack 5 not any more", """
            key(63, 0) = 0; lock(0) = 0; fits(0, 0) = true; put(0, 0) = 1; slack(5) = 1; fits(0, 0) = false;
            put(0, 0) = refused 6 0 0; slack(6) = 0; fits(0, 0) = true; keyOf(0, 2) = -1
            """);
        Runs.check("promise 6: no key falls out, and all ten", """
            type("k1/0;k1/0;k1/0;k1/0;k1/0;k3/0;k3/0;k3/0;k3/0;k3/0"); commands() = 10;
            type("l1;l1;l1;l1;l1;l1;l1;l1;l1;l1;w"); commands() = 11; account(2) = 10; slack(1) = 0; account(2) = 10;
            slack(0) = 5; account(2) = 5; account(8) = 5; keyOf(4, 2) = 4; keyOf(5, 2) = -1; slack(6) = 0; account(2) = 5;
            account(8) = 5; undo() = 4; undo() = 3; account(2) = 10; account(8) = 0
            """);
        Runs.check("promise 6: all ten fall out", """
            type("k3/0;k3/0;k3/0;k3/0;k3/0;k3/0;k3/0;k3/0;k3/0;k3/0"); commands() = 10;
            type("l1;l1;l1;l1;l1;l1;l1;l1;l1;l1;w"); commands() = 11; slack(0) = 10; account(2) = 0; account(8) = 10;
            keyOf(0, 2) = -1; keyOf(9, 2) = -1; lockOf(0, 1) = -1; lockOf(9, 1) = -1; undo() = 2; account(2) = 10;
            lockOf(9, 1) = 9; keyOf(0, 2) = 0
            """);
    }

    private static void barredPairs() {
        Runs.check("Keys and locks, promises 5 and 13: and if the pair is not barred", """
            key(1, 0) = 0; lock(1) = 0; fits(0, 0) = true; bar(0, 0, true) = 1; fits(0, 0) = false; isBarred(0, 0) = true;
            put(0, 0) = refused 6 0 0; bar(0, 0, false) = 0; fits(0, 0) = true; isBarred(0, 0) = false; put(0, 0) = 1
            """);
        Runs.check("promise 5: a pair that does not fit can be barred too", """
            key(1, 0) = 0; lock(6) = 0; bar(0, 0, true) = 1; put(0, 0) = refused 6 2 0; bar(0, 0, false) = 0;
            put(0, 0) = refused 6 2 0; costFor(0, 0) = 2
            """);
        Runs.check("Reasons, promise 5: it is so already", """
            key(1, 0) = 0; lock(1) = 0; bar(0, 0, false) = refused 5 0 0; bar(0, 0, true) = 1; bar(0, 0, true) =
            refused 5 0 0; bar(0, 0, false) = 0; bar(0, 0, false) = refused 5 0 0; account(10) = 4
            """);
        StringBuilder all = new StringBuilder();
        for (int number = 0; number < 10; number++) {
            all.append("key(0, 0) = " + number + "; lock(0) = " + number + "; ");
        }
        for (int pair = 0; pair < 100; pair++) {
            all.append("bar(" + pair / 10 + ", " + pair % 10 + ", true) = " + (pair + 1) + "; ");
        }
        Runs.check("promises 5 and 34: all pairs are barred", all + """
            account(4) = 100; account(3) = 0; meanFits() = 0.0; adds() = 0; most() = 0; mostAgain() = 0; waves() = 0;
            canBeOpen(0) = false; isNeeded(9) = false; cover(true) = 0; cover(false) = 0; wave() = refused 10 0 0;
            bar(9, 9, true) = refused 5 0 0; bar(9, 9, false) = 99; account(3) = 1; length() = 1; canBeOpen(9) = true;
            isNeeded(9) = true; cheapest(9, 0) = 9; cheapest(9, 1) = throws NoSuchElementException; wave() = 1
            """);
    }

    private static void oneKeyOneLock() {
        Runs.check("Open locks, promise 7: a key is in one lock at most", """
            key(3, 0) = 0; lock(1) = 0; lock(2) = 1; put(0, 1) = 1; put(0, 0) = refused 8 1 0; put(0, 1) = refused 8 1 0;
            keyOf(0, 2) = 1; lockOf(0, 1) = -1; take(0) = 1; put(0, 0) = 1; keyOf(0, 2) = 0; lockOf(1, 1) = -1
            """);
        Runs.check("Open locks, promise 7: a lock has one key at most", """
            key(1, 0) = 0; key(1, 0) = 1; lock(1) = 0; put(1, 0) = 1; put(0, 0) = refused 7 1 0; lockOf(0, 1) = 1;
            lockOf(0, 3) = 1; take(1) = 0; put(0, 0) = 1; lockOf(0, 1) = 0; lockOf(0, 3) = 2
            """);
        Runs.check("Open locks, promise 7: a lock is open if a key is in it", """
            key(1, 0) = 0; key(1, 0) = 1; lock(1) = 0; lock(1) = 1; account(2) = 0; put(0, 1) = 1; account(2) = 1;
            put(1, 0) = 2; account(2) = 2; openShare() = 1.0; take(0) = 1; account(2) = 1; take(1) = 0; account(2) = 0;
            openShare() = 0.0
            """);
        Runs.check("promise 8: the latest key of ten, and none", """
            type("k0/0;k0/0;k0/0;k0/0;k0/0;k0/0;k0/0;k0/0;k0/0;k0/0"); commands() = 10;
            type("l0;l0;l0;l0;l0;l0;l0;l0;l0;l0;p90;p09"); commands() = 12; take(9) = 0; take(0) = 9;
            take(9) = refused 9 9 0; take(0) = refused 9 0 0; take(5) = refused 9 5 0
            """);
    }

    private static void fallingOut() {
        Runs.check("Open locks, promise 4: a cut after which it just fits, and one more", """
            key(3, 0) = 0; lock(3) = 0; slack(1) = 0; put(0, 0) = 1; cut(0, 7) = 1; keyOf(0, 2) = 0; account(8) = 0;
            cut(0, 15) = 1; keyOf(0, 2) = -1; lockOf(0, 1) = -1; account(8) = 1; account(2) = 0; cut(0, 7) = 1;
            keyOf(0, 2) = -1; account(8) = 1; lockOf(0, 3) = 1
            """);
        Runs.check("Open locks, promise 4: a pin without a ward", """
            key(3, 0) = 0; lock(3) = 0; put(0, 0) = 1; cut(0, 1) = 1; keyOf(0, 2) = -1; account(8) = 1; cut(0, 3) = 1;
            put(0, 0) = 1; cut(0, 2) = 1; account(8) = 2; undo() = 6; keyOf(0, 2) = 0; account(8) = 1; account(9) = 2
            """);
        Runs.check("Open locks, promise 4: the cut of one key lets no other one fall out", """
            key(1, 0) = 0; key(1, 0) = 1; lock(1) = 0; lock(1) = 1; put(0, 0) = 1; put(1, 1) = 2; cut(1, 2) = 2;
            keyOf(0, 2) = 0; keyOf(1, 2) = -1; account(8) = 1; account(2) = 1
            """);
        Runs.check("Open locks, promise 5: to bar another pair lets no key fall out", """
            key(1, 0) = 0; key(1, 0) = 1; lock(1) = 0; lock(1) = 1; put(0, 0) = 1; bar(0, 1, true) = 1;
            bar(1, 0, true) = 2; account(8) = 0; keyOf(0, 2) = 0; bar(0, 0, true) = 3; account(8) = 1; keyOf(0, 2) = -1
            """);
        Runs.check("Open locks, promise 6: the slack with which it just fits, and one less", """
            key(7, 0) = 0; lock(1) = 0; put(0, 0) = 1; slack(2) = 0; keyOf(0, 2) = 0; slack(1) = 1; keyOf(0, 2) = -1;
            account(8) = 1; slack(2) = 0; keyOf(0, 2) = -1; put(0, 0) = 1; slack(0) = 1; account(8) = 2
            """);
        Runs.check("Open locks, promise 27: keys fall out by commands as by the methods", """
            key(3, 0) = 0; lock(1) = 0; type("p00;s0;s6;p00;c0/2;c0/3;p00;b00;u00"); commands() = 9; account(8) = 3;
            account(2) = 0; lockOf(0, 3) = 3; undo() = 2; account(8) = 0; lockOf(0, 3) = 0
            """);
        Runs.check("Open locks: a key that is taken out does not count as fallen out", """
            key(1, 0) = 0; lock(1) = 0; put(0, 0) = 1; take(0) = 0; account(8) = 0; wave() = 1; undo() = 4; account(8) = 0
            """);
    }

    private static void cuttingCosts() {
        for (int wards = 1; wards < 63; wards++) {
            int cost = Integer.bitCount(wards);
            Runs.check("Cutting, promise 4: as many as the wards that it gets, or loses", "key(0, 1) = 0; cut(0, " + wards
                + ") = " + cost + "; cut(0, 63) = " + (6 - cost) + "; cut(0, " + wards + ") = " + (6 - cost)
                + "; cut(0, 0) = " + cost + "; keyOf(0, 5) = 12; account(9) = 12; porterOf(1, 2) = 12");
        }
        Runs.check("Cutting, promise 4: wards that it gets and loses count both", """
            key(7, 0) = 0; cut(0, 56) = 6; cut(0, 57) = 1; cut(0, 58) = 2; cut(0, 50) = 1; keyOf(0, 5) = 10; account(9) = 10
            """);
        Runs.check("Reasons, promise 4: 3 before 1, 1 before 5, and 5", """
            cut(0, 64) = refused 3 0 0; key(63, 0) = 0; cut(1, 64) = refused 3 1 0; cut(1, 63) = refused 3 1 0;
            cut(0, 64) = refused 1 0 0; cut(0, -1) = refused 1 0 0; cut(0, 63) = refused 5 0 0; cut(0, 0) = 6;
            cut(0, 0) = refused 5 0 0; keyOf(0, 5) = 6; account(9) = 6
            """);
    }

    private static void costs() {
        Runs.check("promise 14: as if the pair was not barred", """
            key(1, 0) = 0; lock(3) = 0; costFor(0, 0) = 1; bar(0, 0, true) = 1; costFor(0, 0) = 1; cut(0, 3) = 1;
            costFor(0, 0) = 0; fits(0, 0) = false; slack(0) = 0; cut(0, 63) = 4; costFor(0, 0) = 4
            """);
        Runs.check("promise 14: the pins without a ward, and then as many wards more as must go", """
            key(7, 0) = 0; lock(56) = 0; costFor(0, 0) = 3; slack(3) = 0; costFor(0, 0) = 3; slack(2) = 0;
            costFor(0, 0) = 4; slack(1) = 0; costFor(0, 0) = 5; slack(0) = 0; costFor(0, 0) = 6
            """);
        Runs.check("promise 14: nothing to cut, and all six", """
            key(0, 0) = 0; key(63, 0) = 1; lock(0) = 0; lock(63) = 1; costFor(0, 0) = 0; costFor(0, 1) = 6;
            costFor(1, 0) = 0; costFor(1, 1) = 0; slack(0) = 0; costFor(0, 0) = 0; costFor(0, 1) = 6; costFor(1, 0) = 6;
            costFor(1, 1) = 0; slack(5) = 0; costFor(1, 0) = 1
            """);
    }

    /** Tells for each set of wards and of pins, and each slack, the least cost of all cuts after which they fit. */
    private static void allCosts() {
        for (int first = 0; first < SETS; first += 10) {
            for (int second = 0; second < SETS; second += 10) {
                for (int slack = 0; slack <= 6; slack++) {
                    KeyWaves lodge = tenByTen(first, second, slack);
                    for (int wards = first; wards < first + 10 && wards < SETS; wards++) {
                        for (int pins = second; pins < second + 10 && pins < SETS; pins++) {
                            String name = "promise 14: cut " + wards + " for " + pins + " with the slack " + slack;
                            Runs.same(name, Runs.use(lodge).costFor(wards - first, pins - second), leastCost(wards, pins, slack));
                        }
                    }
                }
            }
        }
    }

    private static int leastCost(int wards, int pins, int slack) {
        int least = 99;
        for (int set = 0; set < SETS; set++) {
            if (isFit(set, pins, slack)) {
                least = Math.min(least, Integer.bitCount(set ^ wards));
            }
        }
        return least;
    }

    private static void places() {
        Runs.check("promise 15: of several the lowest, from the place 0 to the last one", """
            key(1, 0) = 0; key(2, 0) = 1; key(4, 0) = 2; lock(1) = 0; cheapest(0, 0) = 0; cheapest(0, 1) = 1;
            cheapest(0, 2) = 2; cheapest(0, 3) = throws NoSuchElementException; cheapest(0, -1) = throws
            NoSuchElementException; cut(2, 1) = 2; cheapest(0, 0) = 0; cheapest(0, 1) = 2; cheapest(0, 2) = 1
            """);
        Runs.check("promise 15: pairs that are barred are left out, up to all of them", """
            key(1, 0) = 0; key(2, 0) = 1; lock(1) = 0; lock(1) = 1; bar(0, 0, true) = 1; cheapest(0, 0) = 1;
            cheapest(0, 1) = throws NoSuchElementException; cheapest(1, 0) = 0; cheapest(1, 1) = 1; bar(1, 0, true) = 2;
            cheapest(0, 0) = throws NoSuchElementException; bar(1, 0, false) = 1; cheapest(0, 0) = 1
            """);
        Runs.check("promise 15: a key that is in a lock is told too", """
            key(1, 0) = 0; key(3, 0) = 1; lock(3) = 0; lock(1) = 1; put(1, 0) = 1; put(0, 1) = 2; cheapest(0, 0) = 1;
            cheapest(0, 1) = 0; cheapest(1, 0) = 0; cheapest(1, 1) = 1
            """);
        Runs.check("promise 25: the fewest locks first, then more wards, then the lowest", """
            key(1, 0) = 0; key(1, 0) = 1; key(7, 0) = 2; key(56, 0) = 3; lock(1) = 0; lock(2) = 1; ranked(0) = 3;
            ranked(1) = 0; ranked(2) = 1; ranked(3) = 2; ranked(4) = throws NoSuchElementException; ranked(-1) = throws
            NoSuchElementException; put(0, 0) = 1; ranked(1) = 0; bar(0, 0, true) = 1; ranked(0) = 3; ranked(1) = 0;
            slack(0) = 0; ranked(0) = 2; ranked(1) = 3; ranked(2) = 0; ranked(3) = 1
            """);
    }
}
