import java.util.NoSuchElementException;

/** A porter's lodge where keys are tried on locks in waves. */
public final class KeyWaves {
    private static final int NONE = -1;
    private static final int REFUSED = -1;

    private static final int MOST_KEYS = 10;
    private static final int MOST_LOCKS = 10;
    private static final int HIGHEST_SET = 63;
    private static final int PORTERS = 4;
    private static final int MOST_SLACK = 6;
    private static final int MOST_KEPT = 8;
    private static final int MOST_CHARACTERS = 60;
    private static final int LONGEST_LINE = 80;

    private static final int OUT_OF_RANGE = 1;
    private static final int TOO_MANY = 2;
    private static final int NO_SUCH_KEY = 3;
    private static final int NO_SUCH_LOCK = 4;
    private static final int ALREADY_SO = 5;
    private static final int DOES_NOT_FIT = 6;
    private static final int LOCK_IS_OPEN = 7;
    private static final int KEY_IS_IN_LOCK = 8;
    private static final int KEY_IS_IN_NO_LOCK = 9;
    private static final int NOTHING_TO_ADD = 10;

    private final Lodge now;
    private final Lodge before;
    private final Lodge saved;
    private final Lodge trial;
    private final History history;
    private final Waves waves;
    private final Pairing pairing;
    private final Refusal refusal;
    private final CommandText text;
    private final Line line;
    private boolean hasSaved;
    private int fault;

    public KeyWaves() {
        now = new Lodge();
        before = new Lodge();
        saved = new Lodge();
        trial = new Lodge();
        history = new History();
        waves = new Waves();
        pairing = new Pairing();
        refusal = new Refusal();
        text = new CommandText();
        line = new Line();
        hasSaved = false;
        fault = NONE;
    }

    public int key(int wards, int porter) throws UnsupportedOperationException {
        before.copyFrom(now);
        return settle(now.addKey(wards, porter, refusal), 0);
    }

    public int lock(int pins) throws UnsupportedOperationException {
        before.copyFrom(now);
        return settle(now.addLock(pins, refusal), 0);
    }

    public int cut(int key, int wards) throws UnsupportedOperationException {
        before.copyFrom(now);
        return settle(now.cutKey(key, wards, refusal), 0);
    }

    public int bar(int key, int lock, boolean isBarred) throws UnsupportedOperationException {
        before.copyFrom(now);
        return settle(now.setBar(key, lock, isBarred, refusal), 0);
    }

    public int slack(int wards) throws UnsupportedOperationException {
        before.copyFrom(now);
        return settle(now.setSlack(wards, refusal), 0);
    }

    public int put(int key, int lock) throws UnsupportedOperationException {
        before.copyFrom(now);
        return settle(now.putIn(key, lock, refusal), 0);
    }

    public int take(int key) throws UnsupportedOperationException {
        before.copyFrom(now);
        return settle(now.takeOut(key, refusal), 0);
    }

    public int wave() throws UnsupportedOperationException {
        before.copyFrom(now);
        return settle(carryOut('w', 0, 0), 0);
    }

    public int keyOf(int key, int what) throws IndexOutOfBoundsException, IllegalArgumentException {
        requireKey(key);
        switch (what) {
            case 0:
                return now.wardsOf(key);
            case 1:
                return now.porterWith(key);
            case 2:
                return now.lockWith(key);
            case 3:
                return waves.findLevel(now, key);
            case 4:
                return now.countLocksFor(key);
            case 5:
                return now.cutCostOf(key);
            default:
                throw new IllegalArgumentException("what is not from 0 to 5");
        }
    }

    public int lockOf(int lock, int what) throws IndexOutOfBoundsException, IllegalArgumentException {
        requireLock(lock);
        switch (what) {
            case 0:
                return now.pinsOf(lock);
            case 1:
                return now.keyIn(lock);
            case 2:
                return now.countKeysFor(lock);
            case 3:
                return now.putCountOf(lock);
            default:
                throw new IllegalArgumentException("what is not from 0 to 3");
        }
    }

    public boolean fits(int key, int lock) throws IndexOutOfBoundsException {
        requireKey(key);
        requireLock(lock);
        return now.isFit(key, lock);
    }

    public boolean isBarred(int key, int lock) throws IndexOutOfBoundsException {
        requireKey(key);
        requireLock(lock);
        return now.hasBar(key, lock);
    }

    public int costFor(int key, int lock) throws IndexOutOfBoundsException {
        requireKey(key);
        requireLock(lock);
        return now.costToFit(key, lock);
    }

    public int cheapest(int lock, int place) throws IndexOutOfBoundsException, NoSuchElementException {
        requireLock(lock);
        int key = now.keyByCost(lock, place);
        if (key == NONE) {
            throw new NoSuchElementException("there is no such place");
        }
        return key;
    }

    public int length() throws NoSuchElementException {
        int shortest = waves.findShortest(now);
        if (shortest == NONE) {
            throw new NoSuchElementException("there are no ways");
        }
        return shortest;
    }

    public int adds() {
        trial.copyFrom(now);
        return waves.run(trial);
    }

    public int waves() {
        trial.copyFrom(now);
        return waves.runToEnd(trial);
    }

    public int most() {
        trial.copyFrom(now);
        waves.runToEnd(trial);
        return trial.countOpen();
    }

    public int mostAgain() {
        return pairing.countMostWithout(now, NONE);
    }

    public int cover(boolean isLocks) {
        trial.copyFrom(now);
        waves.runToEnd(trial);
        return isLocks ? waves.findReachedLocks(trial) : waves.findUnreachedKeys(trial);
    }

    public boolean canBeOpen(int lock) throws IndexOutOfBoundsException {
        requireLock(lock);
        // When as many locks are open as can be, and this one is not, each key that fits it is in
        // another lock, and can change over from there: as many are open then, and this one is.
        return now.countKeysFor(lock) > 0;
    }

    public boolean isNeeded(int key) throws IndexOutOfBoundsException {
        requireKey(key);
        return pairing.countMostWithout(now, key) < pairing.countMostWithout(now, NONE);
    }

    public int porterOf(int porter, int what) throws IllegalArgumentException {
        if (!isPorter(porter)) {
            throw new IllegalArgumentException("there is no such porter");
        }
        switch (what) {
            case 0:
                return now.countKeysOn(porter);
            case 1:
                return now.countKeysInLocks(porter);
            case 2:
                return now.sumCostsOn(porter);
            default:
                throw new IllegalArgumentException("what is not from 0 to 2");
        }
    }

    public int ranked(int place) throws NoSuchElementException {
        int key = now.keyByRank(place);
        if (key == NONE) {
            throw new NoSuchElementException("there is no such place");
        }
        return key;
    }

    public int append(char character) throws IllegalStateException {
        if (!text.add(character)) {
            throw new IllegalStateException("the buffer is full");
        }
        return text.length;
    }

    public int commands() throws IllegalArgumentException, UnsupportedOperationException {
        fault = text.findFault();
        if (fault != NONE) {
            text.clear();
            throw new IllegalArgumentException("the text has a fault");
        }
        before.copyFrom(now);
        int count = text.count;
        text.restart();
        for (int index = 0; index < count; index++) {
            text.readNext();
            if (carryOut(text.letter, text.first, text.second) == REFUSED) {
                text.clear();
                return settle(REFUSED, index);
            }
        }
        text.clear();
        return settle(count, 0);
    }

    public int faultPosition() {
        return fault;
    }

    public int reason(int what) throws IllegalArgumentException, NoSuchElementException {
        if (what < 0 || what > 2) {
            throw new IllegalArgumentException("what is not from 0 to 2");
        }
        if (refusal.reason == 0) {
            throw new NoSuchElementException("nothing was refused");
        }
        switch (what) {
            case 0:
                return refusal.reason;
            case 1:
                return refusal.detail;
            default:
                return refusal.index;
        }
    }

    public int line(boolean isLocks) {
        line.clear();
        if (isLocks) {
            line.writeLocks(now);
        } else {
            line.writeKeys(now);
        }
        return line.length;
    }

    public char character(int index) throws IndexOutOfBoundsException {
        if (!line.has(index)) {
            throw new IndexOutOfBoundsException("there is no such index");
        }
        return line.signAt(index);
    }

    public double meanFits() throws ArithmeticException {
        if (now.keys <= 0) {
            throw new ArithmeticException("there are no keys");
        }
        return (double) now.countFits() / (double) now.keys;
    }

    public float openShare() throws ArithmeticException {
        if (now.locks <= 0) {
            throw new ArithmeticException("there are no locks");
        }
        return (float) now.countOpen() / (float) now.locks;
    }

    public int account(int what) throws IllegalArgumentException {
        switch (what) {
            case 0:
                return now.keys;
            case 1:
                return now.locks;
            case 2:
                return now.countOpen();
            case 3:
                return now.countFits();
            case 4:
                return now.countBars();
            case 5:
                return now.slack;
            case 6:
                return now.wavesSoFar;
            case 7:
                return now.waysSoFar;
            case 8:
                return now.fallenSoFar;
            case 9:
                return now.sumCosts();
            case 10:
                return history.count;
            case 11:
                return text.length;
            default:
                throw new IllegalArgumentException("what is not from 0 to 11");
        }
    }

    public int undo() throws IllegalStateException {
        if (!history.giveBackLatest(now)) {
            throw new IllegalStateException("there is nothing to undo");
        }
        return history.count;
    }

    public int save() {
        saved.copyFrom(now);
        hasSaved = true;
        return now.countOpen();
    }

    public int restore() throws IllegalStateException {
        if (!hasSaved) {
            throw new IllegalStateException("there is no snapshot");
        }
        now.copyFrom(saved);
        history.forget();
        return now.countOpen();
    }

    /** Ends a call that changes something: keeps what there was before it, or, if it is refused, goes back to that. */
    private int settle(int answer, int index) {
        if (answer == REFUSED) {
            refusal.index = index;
            now.copyFrom(before);
            throw new UnsupportedOperationException("it is refused");
        }
        history.keep(before);
        return answer;
    }

    /** Carries out a command with its letter and its numbers; the answer is REFUSED if it is refused. */
    private int carryOut(char letter, int first, int second) {
        switch (letter) {
            case 'k':
                return now.addKey(first, second, refusal);
            case 'l':
                return now.addLock(first, refusal);
            case 'c':
                return now.cutKey(first, second, refusal);
            case 'b':
                return now.setBar(first, second, true, refusal);
            case 'u':
                return now.setBar(first, second, false, refusal);
            case 'p':
                return now.putIn(first, second, refusal);
            case 't':
                return now.takeOut(first, refusal);
            case 's':
                return now.setSlack(first, refusal);
            default:
                int taken = waves.run(now);
                return taken > 0 ? taken : refusal.refuse(NOTHING_TO_ADD, now.countOpen());
        }
    }

    private void requireKey(int key) {
        if (!now.hasKey(key)) {
            throw new IndexOutOfBoundsException("there is no such key");
        }
    }

    private void requireLock(int lock) {
        if (!now.hasLock(lock)) {
            throw new IndexOutOfBoundsException("there is no such lock");
        }
    }

    private static boolean isSet(int set) {
        return set >= 0 && set <= HIGHEST_SET;
    }

    private static boolean isPorter(int porter) {
        return porter >= 0 && porter < PORTERS;
    }

    /** Why something was refused last; the reason is 0 as long as nothing was. */
    private static final class Refusal {
        int reason;
        int detail;
        int index;

        int refuse(int newReason, int newDetail) {
            reason = newReason;
            detail = newDetail;
            return REFUSED;
        }
    }

    /** All that can be undone: the keys, the locks, and what was counted so far. */
    private static final class Lodge {
        final int[] wards = new int[MOST_KEYS];
        final int[] porters = new int[MOST_KEYS];
        final int[] bars = new int[MOST_KEYS];
        final int[] cutCosts = new int[MOST_KEYS];
        final int[] lockOfKey = new int[MOST_KEYS];
        final int[] pins = new int[MOST_LOCKS];
        final int[] keyOfLock = new int[MOST_LOCKS];
        final int[] putCounts = new int[MOST_LOCKS];
        int keys = 0;
        int locks = 0;
        int slack = MOST_SLACK;
        int wavesSoFar = 0;
        int waysSoFar = 0;
        int fallenSoFar = 0;

        void copyFrom(Lodge other) {
            System.arraycopy(other.wards, 0, wards, 0, MOST_KEYS);
            System.arraycopy(other.porters, 0, porters, 0, MOST_KEYS);
            System.arraycopy(other.bars, 0, bars, 0, MOST_KEYS);
            System.arraycopy(other.cutCosts, 0, cutCosts, 0, MOST_KEYS);
            System.arraycopy(other.lockOfKey, 0, lockOfKey, 0, MOST_KEYS);
            System.arraycopy(other.pins, 0, pins, 0, MOST_LOCKS);
            System.arraycopy(other.keyOfLock, 0, keyOfLock, 0, MOST_LOCKS);
            System.arraycopy(other.putCounts, 0, putCounts, 0, MOST_LOCKS);
            keys = other.keys;
            locks = other.locks;
            slack = other.slack;
            wavesSoFar = other.wavesSoFar;
            waysSoFar = other.waysSoFar;
            fallenSoFar = other.fallenSoFar;
        }

        boolean hasKey(int key) {
            return key >= 0 && key < keys && key < MOST_KEYS;
        }

        boolean hasLock(int lock) {
            return lock >= 0 && lock < locks && lock < MOST_LOCKS;
        }

        int wardsOf(int key) {
            return hasKey(key) ? wards[key] : 0;
        }

        int porterWith(int key) {
            return hasKey(key) ? porters[key] : NONE;
        }

        int cutCostOf(int key) {
            return hasKey(key) ? cutCosts[key] : 0;
        }

        /** The locks for which a key is barred, bit k for the lock k. */
        int barsOf(int key) {
            return hasKey(key) ? bars[key] : 0;
        }

        int lockWith(int key) {
            return hasKey(key) ? lockOfKey[key] : NONE;
        }

        int pinsOf(int lock) {
            return hasLock(lock) ? pins[lock] : 0;
        }

        int keyIn(int lock) {
            return hasLock(lock) ? keyOfLock[lock] : NONE;
        }

        int putCountOf(int lock) {
            return hasLock(lock) ? putCounts[lock] : 0;
        }

        boolean hasBar(int key, int lock) {
            return hasLock(lock) && (barsOf(key) & (1 << lock)) != 0;
        }

        boolean isFit(int key, int lock) {
            if (!hasKey(key) || !hasLock(lock)) {
                return false;
            }
            boolean hasAllWards = (pins[lock] & ~wards[key]) == 0;
            boolean isWithinSlack = Integer.bitCount(wards[key]) <= Integer.bitCount(pins[lock]) + slack;
            return hasAllWards && isWithinSlack && (bars[key] & (1 << lock)) == 0;
        }

        int countMissing(int key, int lock) {
            return Integer.bitCount(pinsOf(lock) & ~wardsOf(key));
        }

        int costToFit(int key, int lock) {
            int missing = countMissing(key, lock);
            int held = Integer.bitCount(wardsOf(key)) + missing;
            int allowed = Integer.bitCount(pinsOf(lock)) + slack;
            return missing + Math.max(0, held - allowed);
        }

        int addKey(int newWards, int porter, Refusal refusal) {
            if (!isSet(newWards) || !isPorter(porter)) {
                return refusal.refuse(OUT_OF_RANGE, 0);
            }
            if (keys < 0 || keys >= MOST_KEYS) {
                return refusal.refuse(TOO_MANY, MOST_KEYS);
            }
            int key = keys;
            wards[key] = newWards;
            porters[key] = porter;
            bars[key] = 0;
            cutCosts[key] = 0;
            lockOfKey[key] = NONE;
            keys++;
            return key;
        }

        int addLock(int newPins, Refusal refusal) {
            if (!isSet(newPins)) {
                return refusal.refuse(OUT_OF_RANGE, 0);
            }
            if (locks < 0 || locks >= MOST_LOCKS) {
                return refusal.refuse(TOO_MANY, MOST_LOCKS);
            }
            int lock = locks;
            pins[lock] = newPins;
            keyOfLock[lock] = NONE;
            putCounts[lock] = 0;
            locks++;
            return lock;
        }

        int cutKey(int key, int newWards, Refusal refusal) {
            if (!hasKey(key)) {
                return refusal.refuse(NO_SUCH_KEY, key);
            }
            if (!isSet(newWards)) {
                return refusal.refuse(OUT_OF_RANGE, 0);
            }
            if (wards[key] == newWards) {
                return refusal.refuse(ALREADY_SO, 0);
            }
            int cost = Integer.bitCount(wards[key] ^ newWards);
            wards[key] = newWards;
            cutCosts[key] += cost;
            dropUnfit();
            return cost;
        }

        int setBar(int key, int lock, boolean isBarred, Refusal refusal) {
            if (!hasKey(key)) {
                return refusal.refuse(NO_SUCH_KEY, key);
            }
            if (!hasLock(lock)) {
                return refusal.refuse(NO_SUCH_LOCK, lock);
            }
            if (hasBar(key, lock) == isBarred) {
                return refusal.refuse(ALREADY_SO, 0);
            }
            bars[key] ^= 1 << lock;
            dropUnfit();
            return countBars();
        }

        int setSlack(int newSlack, Refusal refusal) {
            if (newSlack < 0 || newSlack > MOST_SLACK) {
                return refusal.refuse(OUT_OF_RANGE, 0);
            }
            if (slack == newSlack) {
                return refusal.refuse(ALREADY_SO, 0);
            }
            slack = newSlack;
            return dropUnfit();
        }

        int putIn(int key, int lock, Refusal refusal) {
            if (!hasKey(key)) {
                return refusal.refuse(NO_SUCH_KEY, key);
            }
            if (!hasLock(lock)) {
                return refusal.refuse(NO_SUCH_LOCK, lock);
            }
            if (lockOfKey[key] != NONE) {
                return refusal.refuse(KEY_IS_IN_LOCK, lockOfKey[key]);
            }
            if (keyOfLock[lock] != NONE) {
                return refusal.refuse(LOCK_IS_OPEN, keyOfLock[lock]);
            }
            if (!isFit(key, lock)) {
                return refusal.refuse(DOES_NOT_FIT, countMissing(key, lock));
            }
            place(key, lock);
            return countOpen();
        }

        int takeOut(int key, Refusal refusal) {
            if (!hasKey(key)) {
                return refusal.refuse(NO_SUCH_KEY, key);
            }
            int lock = lockOfKey[key];
            if (!hasLock(lock)) {
                return refusal.refuse(KEY_IS_IN_NO_LOCK, key);
            }
            lockOfKey[key] = NONE;
            keyOfLock[lock] = NONE;
            return lock;
        }

        /** Puts a key into a lock; who calls it sees to the lock where the key was, and the key that was there. */
        void place(int key, int lock) {
            if (hasKey(key) && hasLock(lock)) {
                lockOfKey[key] = lock;
                keyOfLock[lock] = key;
                putCounts[lock]++;
            }
        }

        /** Lets the keys fall out that do not fit any more, and answers how many do. */
        private int dropUnfit() {
            int fallen = 0;
            for (int key = 0; key < keys; key++) {
                int lock = lockWith(key);
                if (hasLock(lock) && !isFit(key, lock)) {
                    lockOfKey[key] = NONE;
                    keyOfLock[lock] = NONE;
                    fallen++;
                }
            }
            fallenSoFar += fallen;
            return fallen;
        }

        int countOpen() {
            int open = 0;
            for (int lock = 0; lock < locks; lock++) {
                if (keyIn(lock) != NONE) {
                    open++;
                }
            }
            return open;
        }

        int countLocksFor(int key) {
            int count = 0;
            for (int lock = 0; lock < locks; lock++) {
                if (isFit(key, lock)) {
                    count++;
                }
            }
            return count;
        }

        int countKeysFor(int lock) {
            int count = 0;
            for (int key = 0; key < keys; key++) {
                if (isFit(key, lock)) {
                    count++;
                }
            }
            return count;
        }

        int countFits() {
            int count = 0;
            for (int key = 0; key < keys; key++) {
                count += countLocksFor(key);
            }
            return count;
        }

        int countBars() {
            int count = 0;
            for (int key = 0; key < keys; key++) {
                count += Integer.bitCount(barsOf(key));
            }
            return count;
        }

        int sumCosts() {
            int sum = 0;
            for (int key = 0; key < keys; key++) {
                sum += cutCostOf(key);
            }
            return sum;
        }

        int countKeysOn(int porter) {
            int count = 0;
            for (int key = 0; key < keys; key++) {
                if (porterWith(key) == porter) {
                    count++;
                }
            }
            return count;
        }

        int countKeysInLocks(int porter) {
            int count = 0;
            for (int key = 0; key < keys; key++) {
                if (porterWith(key) == porter && lockWith(key) != NONE) {
                    count++;
                }
            }
            return count;
        }

        int sumCostsOn(int porter) {
            int sum = 0;
            for (int key = 0; key < keys; key++) {
                if (porterWith(key) == porter) {
                    sum += cutCostOf(key);
                }
            }
            return sum;
        }

        int keyByCost(int lock, int place) {
            for (int key = 0; key < keys; key++) {
                if (!hasBar(key, lock) && countCheaper(key, lock) == place) {
                    return key;
                }
            }
            return NONE;
        }

        private int countCheaper(int key, int lock) {
            int cost = costToFit(key, lock);
            int count = 0;
            for (int other = 0; other < keys; other++) {
                int otherCost = costToFit(other, lock);
                boolean comesBefore = otherCost < cost || (otherCost == cost && other < key);
                if (!hasBar(other, lock) && comesBefore) {
                    count++;
                }
            }
            return count;
        }

        int keyByRank(int place) {
            for (int key = 0; key < keys; key++) {
                if (countRankedBefore(key) == place) {
                    return key;
                }
            }
            return NONE;
        }

        private int countRankedBefore(int key) {
            int count = 0;
            for (int other = 0; other < keys; other++) {
                if (isRankedBefore(other, key)) {
                    count++;
                }
            }
            return count;
        }

        private boolean isRankedBefore(int one, int other) {
            int oneFits = countLocksFor(one);
            int otherFits = countLocksFor(other);
            if (oneFits != otherFits) {
                return oneFits < otherFits;
            }
            int oneWards = Integer.bitCount(wardsOf(one));
            int otherWards = Integer.bitCount(wardsOf(other));
            return oneWards != otherWards ? oneWards > otherWards : one < other;
        }
    }

    /** What there was before the latest changes, the oldest first. */
    private static final class History {
        final Lodge[] rows = new Lodge[MOST_KEPT];
        int count = 0;

        History() {
            for (int i = 0; i < MOST_KEPT; i++) {
                rows[i] = new Lodge();
            }
        }

        void keep(Lodge lodge) {
            if (count >= MOST_KEPT) {
                forgetOldest();
            }
            Lodge row = rowAt(count);
            if (row != null) {
                row.copyFrom(lodge);
                count++;
            }
        }

        boolean giveBackLatest(Lodge lodge) {
            Lodge row = rowAt(count - 1);
            if (row == null) {
                return false;
            }
            lodge.copyFrom(row);
            count--;
            return true;
        }

        void forget() {
            count = 0;
        }

        private Lodge rowAt(int index) {
            return index >= 0 && index < MOST_KEPT ? rows[index] : null;
        }

        private void forgetOldest() {
            Lodge oldest = rows[0];
            for (int i = 1; i < MOST_KEPT; i++) {
                rows[i - 1] = rows[i];
            }
            rows[MOST_KEPT - 1] = oldest;
            count = MOST_KEPT - 1;
        }
    }

    /** Levels, and the waves that follow them. */
    private static final class Waves {
        final int[] levels = new int[MOST_KEYS];
        final boolean[] isGivenUp = new boolean[MOST_KEYS];
        int lastLevel = NONE;

        /** Lets one wave come, and answers how many ways are taken; the lodge stays as it is if there are none. */
        int run(Lodge lodge) {
            findLevels(lodge);
            if (lastLevel == NONE) {
                return 0;
            }
            for (int key = 0; key < MOST_KEYS; key++) {
                isGivenUp[key] = false;
            }
            int taken = 0;
            for (int key = 0; key < lodge.keys; key++) {
                if (levelAt(key) == 0 && takeWay(this, lodge, key, 0)) {
                    taken++;
                }
            }
            lodge.wavesSoFar++;
            lodge.waysSoFar += taken;
            return taken;
        }

        /** Lets waves come until none could add anything, and answers how many came. */
        int runToEnd(Lodge lodge) {
            int came = 0;
            // Each wave opens a lock, so that there are never more waves than locks.
            while (came < MOST_LOCKS && run(lodge) > 0) {
                came++;
            }
            return came;
        }

        int findLevel(Lodge lodge, int key) {
            findLevels(lodge);
            return levelAt(key);
        }

        /** The length of the shortest ways, or NONE. */
        int findShortest(Lodge lodge) {
            findLevels(lodge);
            return lastLevel == NONE ? NONE : lastLevel + 1;
        }

        int findReachedLocks(Lodge lodge) {
            findLevels(lodge);
            int reached = 0;
            for (int lock = 0; lock < lodge.locks; lock++) {
                if (isReached(lodge, lock)) {
                    reached |= 1 << lock;
                }
            }
            return reached;
        }

        int findUnreachedKeys(Lodge lodge) {
            findLevels(lodge);
            int unreached = 0;
            for (int key = 0; key < lodge.keys; key++) {
                if (levelAt(key) == NONE) {
                    unreached |= 1 << key;
                }
            }
            return unreached;
        }

        private boolean isReached(Lodge lodge, int lock) {
            for (int key = 0; key < lodge.keys; key++) {
                if (levelAt(key) != NONE && lodge.isFit(key, lock) && lodge.keyIn(lock) != key) {
                    return true;
                }
            }
            return false;
        }

        private int levelAt(int key) {
            return key >= 0 && key < MOST_KEYS ? levels[key] : NONE;
        }

        private void findLevels(Lodge lodge) {
            for (int key = 0; key < MOST_KEYS; key++) {
                boolean isFree = lodge.hasKey(key) && lodge.lockWith(key) == NONE;
                levels[key] = isFree ? 0 : NONE;
            }
            lastLevel = NONE;
            for (int level = 0; level < MOST_KEYS; level++) {
                for (int key = 0; key < lodge.keys; key++) {
                    if (levelAt(key) == level) {
                        spreadLevel(lodge, key, level);
                    }
                }
            }
        }

        /** Gives the next level to the keys in the locks that a key fits, if they have none yet. */
        private void spreadLevel(Lodge lodge, int key, int level) {
            for (int lock = 0; lock < lodge.locks; lock++) {
                if (!lodge.isFit(key, lock)) {
                    continue;
                }
                int holder = lodge.keyIn(lock);
                if (!lodge.hasKey(holder)) {
                    lastLevel = lastLevel == NONE ? level : lastLevel;
                } else if (levels[holder] == NONE) {
                    levels[holder] = level + 1;
                }
            }
        }

        private boolean canGoOn(int key, int level) {
            return levelAt(key) == level && level <= lastLevel && !isGivenUp[key];
        }

        /** Looks for a way from a key, and takes it, its last key first, while the calls return. */
        private static boolean takeWay(Waves waves, Lodge lodge, int key, int level) {
            if (key < 0 || key >= MOST_KEYS || level >= MOST_KEYS) {
                return false;
            }
            for (int lock = 0; lock < lodge.locks; lock++) {
                if (!lodge.isFit(key, lock)) {
                    continue;
                }
                int holder = lodge.keyIn(lock);
                boolean isEnd = holder == NONE;
                if (isEnd || (waves.canGoOn(holder, level + 1) && takeWay(waves, lodge, holder, level + 1))) {
                    lodge.place(key, lock);
                    return true;
                }
            }
            waves.isGivenUp[key] = true;
            return false;
        }
    }

    /** The second way to the most locks that can be open: without levels, from no key in any lock on. */
    private static final class Pairing {
        final int[] keyOfLock = new int[MOST_LOCKS];
        final boolean[] isTried = new boolean[MOST_LOCKS];

        /** Answers the most locks that can be open if one key is left out, or none of them. */
        int countMostWithout(Lodge lodge, int leftOut) {
            for (int lock = 0; lock < MOST_LOCKS; lock++) {
                keyOfLock[lock] = NONE;
            }
            int open = 0;
            for (int key = 0; key < lodge.keys; key++) {
                if (key != leftOut && startFrom(lodge, key)) {
                    open++;
                }
            }
            return open;
        }

        private boolean startFrom(Lodge lodge, int key) {
            for (int lock = 0; lock < MOST_LOCKS; lock++) {
                isTried[lock] = false;
            }
            return takeAnyWay(this, lodge, key, 0);
        }

        private static boolean takeAnyWay(Pairing pairing, Lodge lodge, int key, int depth) {
            if (depth > MOST_LOCKS) {
                return false;
            }
            for (int lock = 0; lock < lodge.locks && lock < MOST_LOCKS; lock++) {
                if (pairing.isTried[lock] || !lodge.isFit(key, lock)) {
                    continue;
                }
                pairing.isTried[lock] = true;
                int holder = pairing.keyOfLock[lock];
                if (holder == NONE || takeAnyWay(pairing, lodge, holder, depth + 1)) {
                    pairing.keyOfLock[lock] = key;
                    return true;
                }
            }
            return false;
        }
    }

    /** The text buffer, and the command in it that was read last. */
    private static final class CommandText {
        final char[] signs = new char[MOST_CHARACTERS];
        int length = 0;
        int place = 0;
        int count = 0;
        char letter = 'w';
        int first = 0;
        int second = 0;

        boolean add(char sign) {
            if (length < 0 || length >= MOST_CHARACTERS) {
                return false;
            }
            signs[length] = sign;
            length++;
            return true;
        }

        void clear() {
            length = 0;
        }

        void restart() {
            place = 0;
        }

        /** The fault position, or NONE; counts the commands. */
        int findFault() {
            restart();
            count = 0;
            while (count <= MOST_CHARACTERS) {
                if (!readCommand()) {
                    return place;
                }
                count++;
                if (place >= length) {
                    return NONE;
                }
                if (!readSign(';')) {
                    return place;
                }
            }
            return place;
        }

        /** Reads the next command of a text without a fault, and the sign behind it, if there is one. */
        void readNext() {
            if (readCommand()) {
                readSign(';');
            }
        }

        /** Reads a command; if it has a fault, the place is the position of the fault then. */
        private boolean readCommand() {
            letter = signAtPlace();
            switch (letter) {
                case 'k':
                    place++;
                    return readFirst(2) && readSign('/') && readSecond(1);
                case 'l':
                    place++;
                    return readFirst(2);
                case 'c':
                    place++;
                    return readFirst(1) && readSign('/') && readSecond(2);
                case 'b':
                case 'u':
                case 'p':
                    place++;
                    return readFirst(1) && readSecond(1);
                case 't':
                case 's':
                    place++;
                    return readFirst(1);
                case 'w':
                    place++;
                    return true;
                default:
                    return false;
            }
        }

        private boolean readFirst(int mostDigits) {
            first = readNumber(mostDigits);
            return first != NONE;
        }

        private boolean readSecond(int mostDigits) {
            second = readNumber(mostDigits);
            return second != NONE;
        }

        private int readNumber(int mostDigits) {
            int number = NONE;
            for (int digits = 0; digits < mostDigits; digits++) {
                char sign = signAtPlace();
                if (sign < '0' || sign > '9') {
                    return number;
                }
                number = Math.max(number, 0) * 10 + (sign - '0');
                place++;
            }
            return number;
        }

        private boolean readSign(char sign) {
            if (signAtPlace() != sign) {
                return false;
            }
            place++;
            return true;
        }

        /** The sign at the place; behind the text it is 0, with which no command goes on. */
        private char signAtPlace() {
            return place >= 0 && place < length && place < MOST_CHARACTERS ? signs[place] : (char) 0;
        }
    }

    /** The line of keys or locks. */
    private static final class Line {
        final char[] signs = new char[LONGEST_LINE];
        int length = 0;

        void clear() {
            length = 0;
        }

        boolean has(int index) {
            return index >= 0 && index < length && index < LONGEST_LINE;
        }

        char signAt(int index) {
            return has(index) ? signs[index] : (char) 0;
        }

        void writeKeys(Lodge lodge) {
            for (int key = 0; key < lodge.keys; key++) {
                writeOne(key, lodge.wardsOf(key), lodge.lockWith(key));
            }
        }

        void writeLocks(Lodge lodge) {
            for (int lock = 0; lock < lodge.locks; lock++) {
                writeOne(lock, lodge.pinsOf(lock), lodge.keyIn(lock));
            }
        }

        private void writeOne(int number, int set, int partner) {
            if (length > 0) {
                add(' ');
            }
            addNumber(number);
            add('#');
            addNumber(set);
            if (partner != NONE) {
                add('-');
                addNumber(partner);
            }
        }

        /** Adds a number from 0 to 99. */
        private void addNumber(int number) {
            if (number >= 10) {
                add((char) ('0' + number / 10));
            }
            add((char) ('0' + number % 10));
        }

        private void add(char sign) {
            if (length >= 0 && length < LONGEST_LINE) {
                signs[length] = sign;
                length++;
            }
        }
    }
}
