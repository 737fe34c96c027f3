import java.util.ArrayList;
import java.util.List;

/**
 * The state of a lodge, told a second time and as slowly as the document tells it: levels by repeating until
 * nothing changes, ways by trying all, the most locks by all sets of locks that can be open.
 */
final class Model {
    final List<Integer> wards = new ArrayList<>();
    final List<Integer> porters = new ArrayList<>();
    final List<Integer> cutCosts = new ArrayList<>();
    final List<Integer> pins = new ArrayList<>();
    final List<Integer> holders = new ArrayList<>();
    final List<Integer> putCounts = new ArrayList<>();
    final boolean[][] bars = new boolean[10][10];
    int slack = 6;
    int waves = 0;
    int ways = 0;
    int fallen = 0;

    /** The latest refusal: the reason and the detail. */
    int reason = 0;
    int detail = 0;

    Model copy() {
        Model copy = new Model();
        copy.wards.addAll(wards);
        copy.porters.addAll(porters);
        copy.cutCosts.addAll(cutCosts);
        copy.pins.addAll(pins);
        copy.holders.addAll(holders);
        copy.putCounts.addAll(putCounts);
        for (int key = 0; key < 10; key++) {
            System.arraycopy(bars[key], 0, copy.bars[key], 0, 10);
        }
        copy.slack = slack;
        copy.waves = waves;
        copy.ways = ways;
        copy.fallen = fallen;
        return copy;
    }

    private Integer refuse(int newReason, int newDetail) {
        reason = newReason;
        detail = newDetail;
        return null;
    }

    private static List<Integer> bits(int set) {
        List<Integer> bits = new ArrayList<>();
        for (int bit = 0; bit < 6; bit++) {
            if (set / (1 << bit) % 2 == 1) {
                bits.add(bit);
            }
        }
        return bits;
    }

    int lacking(int key, int lock) {
        List<Integer> lacking = bits(pins.get(lock));
        lacking.removeAll(bits(wards.get(key)));
        return lacking.size();
    }

    boolean fitsUnbarred(int wardSet, int lock) {
        List<Integer> wardList = bits(wardSet);
        List<Integer> pinList = bits(pins.get(lock));
        return wardList.containsAll(pinList) && wardList.size() <= pinList.size() + slack;
    }

    boolean fits(int key, int lock) {
        return !bars[key][lock] && fitsUnbarred(wards.get(key), lock);
    }

    /** The least cost over all 64 sets of wards that would fit. */
    int costFor(int key, int lock) {
        int least = 99;
        for (int set = 0; set < 64; set++) {
            if (fitsUnbarred(set, lock)) {
                least = Math.min(least, bits(set ^ wards.get(key)).size());
            }
        }
        return least;
    }

    int lockWith(int key) {
        return holders.indexOf(key);
    }

    int open() {
        int open = 0;
        for (int holder : holders) {
            open += holder >= 0 ? 1 : 0;
        }
        return open;
    }

    boolean hasKey(int key) {
        return key >= 0 && key < wards.size();
    }

    boolean hasLock(int lock) {
        return lock >= 0 && lock < pins.size();
    }

    /** Carries out a change as the command of a text does; null if it is refused. */
    Integer change(char letter, int first, int second) {
        switch (letter) {
            case 'k':
                return key(first, second);
            case 'l':
                return lock(first);
            case 'c':
                return cut(first, second);
            case 'b':
                return bar(first, second, true);
            case 'u':
                return bar(first, second, false);
            case 's':
                return setSlack(first);
            case 'p':
                return put(first, second);
            case 't':
                return take(first);
            default:
                return wave();
        }
    }

    private Integer key(int set, int porter) {
        if (set < 0 || set > 63 || porter < 0 || porter > 3) {
            return refuse(1, 0);
        }
        if (wards.size() == 10) {
            return refuse(2, 10);
        }
        wards.add(set);
        porters.add(porter);
        cutCosts.add(0);
        return wards.size() - 1;
    }

    private Integer lock(int set) {
        if (set < 0 || set > 63) {
            return refuse(1, 0);
        }
        if (pins.size() == 10) {
            return refuse(2, 10);
        }
        pins.add(set);
        holders.add(-1);
        putCounts.add(0);
        return pins.size() - 1;
    }

    private Integer cut(int key, int set) {
        if (!hasKey(key)) {
            return refuse(3, key);
        }
        if (set < 0 || set > 63) {
            return refuse(1, 0);
        }
        if (wards.get(key) == set) {
            return refuse(5, 0);
        }
        int cost = bits(wards.get(key) ^ set).size();
        wards.set(key, set);
        cutCosts.set(key, cutCosts.get(key) + cost);
        fallOut();
        return cost;
    }

    private Integer bar(int key, int lock, boolean isBarred) {
        if (!hasKey(key)) {
            return refuse(3, key);
        }
        if (!hasLock(lock)) {
            return refuse(4, lock);
        }
        if (bars[key][lock] == isBarred) {
            return refuse(5, 0);
        }
        bars[key][lock] = isBarred;
        fallOut();
        return barred();
    }

    int barred() {
        int barred = 0;
        for (boolean[] row : bars) {
            for (boolean isBarred : row) {
                barred += isBarred ? 1 : 0;
            }
        }
        return barred;
    }

    private Integer setSlack(int newSlack) {
        if (newSlack < 0 || newSlack > 6) {
            return refuse(1, 0);
        }
        if (newSlack == slack) {
            return refuse(5, 0);
        }
        slack = newSlack;
        return fallOut();
    }

    private int fallOut() {
        int count = 0;
        for (int lock = 0; lock < pins.size(); lock++) {
            if (holders.get(lock) >= 0 && !fits(holders.get(lock), lock)) {
                holders.set(lock, -1);
                count++;
            }
        }
        fallen += count;
        return count;
    }

    private Integer put(int key, int lock) {
        if (!hasKey(key)) {
            return refuse(3, key);
        }
        if (!hasLock(lock)) {
            return refuse(4, lock);
        }
        if (lockWith(key) >= 0) {
            return refuse(8, lockWith(key));
        }
        if (holders.get(lock) >= 0) {
            return refuse(7, holders.get(lock));
        }
        if (!fits(key, lock)) {
            return refuse(6, lacking(key, lock));
        }
        holders.set(lock, key);
        putCounts.set(lock, putCounts.get(lock) + 1);
        return open();
    }

    private Integer take(int key) {
        if (!hasKey(key)) {
            return refuse(3, key);
        }
        int lock = lockWith(key);
        if (lock < 0) {
            return refuse(9, key);
        }
        holders.set(lock, -1);
        return lock;
    }

    /** The levels, repeated until none changes. */
    int[] levels() {
        int[] levels = new int[wards.size()];
        for (int key = 0; key < levels.length; key++) {
            levels[key] = lockWith(key) < 0 ? 0 : -1;
        }
        boolean isChanged = true;
        while (isChanged) {
            isChanged = false;
            for (int key = 0; key < levels.length; key++) {
                int least = lockWith(key) < 0 ? -1 : leastFor(levels, lockWith(key), key);
                if (least >= 0 && levels[key] != least + 1) {
                    levels[key] = least + 1;
                    isChanged = true;
                }
            }
        }
        return levels;
    }

    /** The least level of a key, but for one, that fits a lock; -1 if there is none. */
    private int leastFor(int[] levels, int lock, int butFor) {
        int least = -1;
        for (int key = 0; key < levels.length; key++) {
            if (key != butFor && levels[key] >= 0 && fits(key, lock)) {
                least = least < 0 ? levels[key] : Math.min(least, levels[key]);
            }
        }
        return least;
    }

    int lastLevel() {
        int last = -1;
        for (int lock = 0; lock < pins.size(); lock++) {
            int least = holders.get(lock) < 0 ? leastFor(levels(), lock, -1) : -1;
            if (least >= 0) {
                last = last < 0 ? least : Math.min(last, least);
            }
        }
        return last;
    }

    Integer wave() {
        if (lastLevel() < 0) {
            return refuse(10, open());
        }
        int[] levels = levels();
        int last = lastLevel();
        List<Integer> free = new ArrayList<>();
        for (int key = 0; key < wards.size(); key++) {
            if (lockWith(key) < 0) {
                free.add(key);
            }
        }
        List<Integer> givenUp = new ArrayList<>();
        int taken = 0;
        for (int key : free) {
            List<int[]> way = new ArrayList<>();
            if (look(key, levels, last, givenUp, way)) {
                for (int[] step : way) {
                    holders.set(step[1], step[0]);
                    putCounts.set(step[1], putCounts.get(step[1]) + 1);
                }
                taken++;
            }
        }
        waves++;
        ways += taken;
        return taken;
    }

    private boolean look(int key, int[] levels, int last, List<Integer> givenUp, List<int[]> way) {
        for (int lock = 0; lock < pins.size(); lock++) {
            if (!fits(key, lock)) {
                continue;
            }
            way.add(new int[] {key, lock});
            int holder = holders.get(lock);
            if (holder < 0) {
                return true;
            }
            boolean isNext = levels[holder] == levels[key] + 1 && levels[holder] <= last && !givenUp.contains(holder);
            if (isNext && look(holder, levels, last, givenUp, way)) {
                return true;
            }
            way.remove(way.size() - 1);
        }
        givenUp.add(key);
        return false;
    }

    Model afterAllWaves() {
        Model model = copy();
        boolean goesOn = true;
        while (goesOn) {
            goesOn = model.wave() != null;
        }
        return model;
    }

    /** The length of the shortest way of all that there are; 99 if there are none. */
    int shortest() {
        int shortest = 99;
        for (int key = 0; key < wards.size(); key++) {
            if (lockWith(key) < 0) {
                shortest = Math.min(shortest, shortestFrom(key, new ArrayList<>()));
            }
        }
        return shortest;
    }

    private int shortestFrom(int key, List<Integer> before) {
        int shortest = 99;
        List<Integer> keys = new ArrayList<>(before);
        keys.add(key);
        for (int lock = 0; lock < pins.size(); lock++) {
            int holder = holders.get(lock);
            if (fits(key, lock) && holder < 0) {
                shortest = Math.min(shortest, keys.size());
            } else if (fits(key, lock) && holder != key && !keys.contains(holder)) {
                shortest = Math.min(shortest, shortestFrom(holder, keys));
            }
        }
        return shortest;
    }

    /** Which sets of locks can be open at once, if one key is left out, or none. */
    boolean[] openSets(int leftOut) {
        boolean[] sets = new boolean[1 << pins.size()];
        sets[0] = true;
        for (int key = 0; key < wards.size(); key++) {
            for (int set = key == leftOut ? -1 : sets.length - 1; set >= 0; set--) {
                for (int lock = 0; sets[set] && lock < pins.size(); lock++) {
                    if (fits(key, lock) && (set & (1 << lock)) == 0) {
                        sets[set | (1 << lock)] = true;
                    }
                }
            }
        }
        return sets;
    }

    static int largest(boolean[] sets) {
        int largest = 0;
        for (int set = 0; set < sets.length; set++) {
            largest = sets[set] ? Math.max(largest, Integer.bitCount(set)) : largest;
        }
        return largest;
    }

    boolean canBeOpen(int lock) {
        boolean[] sets = openSets(-1);
        for (int set = 0; set < sets.length; set++) {
            if (sets[set] && Integer.bitCount(set) == largest(sets) && (set & (1 << lock)) != 0) {
                return true;
            }
        }
        return false;
    }

    /** The keys and the locks that stand on the beginning of a way, as two sets. */
    int[] beginnings() {
        int[] sets = new int[2];
        for (int key = 0; key < wards.size(); key++) {
            if (lockWith(key) < 0) {
                goOn(key, sets);
            }
        }
        return sets;
    }

    private void goOn(int key, int[] sets) {
        sets[0] |= 1 << key;
        for (int lock = 0; lock < pins.size(); lock++) {
            int holder = holders.get(lock);
            if (fits(key, lock) && holder != key) {
                sets[1] |= 1 << lock;
                if (holder >= 0 && (sets[0] & (1 << holder)) == 0) {
                    goOn(holder, sets);
                }
            }
        }
    }
}
