import java.util.ArrayList;
import java.util.Comparator;
import java.util.List;
import java.util.regex.Matcher;
import java.util.regex.Pattern;

/**
 * Long runs of many changes, behind each of which all answers are compared with those of the model. An object is
 * used for no more than 512 calls: when there is no room for a question any more, the changes come again on a new one.
 */
final class ModelTest {
    private static final int RUNS = 400;
    private static final int CHANGES = 60;
    private static final int MOST_CALLS_OF_CHANGES = 350;
    private static final int LONGEST_LINE = 69;
    private static final Pattern TEXT = Pattern.compile("C(;C)*".replace("C",
        "(k[0-9]{1,2}/[0-9]|l[0-9]{1,2}|c[0-9]/[0-9]{1,2}|[bup][0-9]{2}|[ts][0-9]|w)"));

    private final List<String> changes = new ArrayList<>();
    private final List<Model> earlier = new ArrayList<>();
    private final String name;
    private KeyWaves lodge = new KeyWaves();
    private int callsOfChanges = 0;
    private Model model = new Model();
    private Model snapshot = null;
    private int reason = 0;
    private int detail = 0;
    private int index = 0;
    private long seed;

    private ModelTest(int run) {
        name = "run " + run;
        seed = run * 7919L + 17;
    }

    public static void main(String[] arguments) {
        for (int run = 0; run < RUNS; run++) {
            ModelTest test = new ModelTest(run);
            test.fill(run);
            for (int change = 0; change < CHANGES && test.callsOfChanges < MOST_CALLS_OF_CHANGES; change++) {
                test.step();
                test.compare(change % 10 == 9);
            }
        }
        for (int text = 0; text < 20000; text++) {
            new ModelTest(text).tryText();
        }
        Runs.end("ModelTest");
    }

    /** The object, for a call more, which changes nothing. */
    private KeyWaves ask() {
        makeRoom(1);
        return Runs.use(lodge);
    }

    private String answer(String question) {
        makeRoom(1);
        return Runs.answer(lodge, question);
    }

    private void makeRoom(int calls) {
        if (Runs.roomOf(lodge) < calls) {
            lodge = new KeyWaves();
            Runs.replay(lodge, changes);
        }
    }

    /** Lets a change come, or what would be one. */
    private String change(String call) {
        makeRoom(1);
        changes.add(call);
        callsOfChanges++;
        return Runs.answer(lodge, call);
    }

    private void type(String text) {
        makeRoom(text.length());
        changes.add("type(\"" + text + "\")");
        callsOfChanges += text.length();
        Runs.type(lodge, text);
    }

    private int next(int bound) {
        seed = seed * 6364136223846793005L + 1442695040888963407L;
        return (int) ((seed >>> 33) % bound);
    }

    /** A set with few bits, most often, so that something fits. */
    private int nextSet() {
        int kind = next(12);
        return kind == 0 ? next(70) - 3 : kind < 6 ? 1 << next(6) : kind < 9 ? next(64) & next(64) : next(64);
    }

    private int nextNumber() {
        return next(40) == 0 ? next(14) - 2 : next(10);
    }

    private void fill(int run) {
        int keys = run % 11;
        int locks = run / 11 % 11;
        for (int i = 0; i < keys; i++) {
            single('k', nextSet() & 63, next(4));
        }
        for (int i = 0; i < locks; i++) {
            single('l', nextSet() & 63, 0);
        }
    }

    private void step() {
        int kind = next(20);
        if (kind == 0) {
            undo();
        } else if (kind == 1) {
            snapshot = model.copy();
            Runs.same(name + ": save", change("save()"), String.valueOf(model.open()));
        } else if (kind == 2 && next(3) == 0) {
            restore();
        } else if (kind < 6) {
            text();
        } else {
            char letter = "kklcccbbbusppppttwww".charAt(next(20));
            single(letter, first(letter), second(letter));
        }
    }

    private int first(char letter) {
        return letter == 'k' || letter == 'l' ? nextSet() : letter == 's' ? next(9) - 1 : nextNumber();
    }

    private int second(char letter) {
        return letter == 'c' ? nextSet() : letter == 'k' ? next(30) == 0 ? 4 : next(4) : nextNumber();
    }

    private void keep(Model before) {
        earlier.add(before);
        if (earlier.size() > 8) {
            earlier.remove(0);
        }
    }

    private void single(char letter, int first, int second) {
        Model before = model.copy();
        Integer due = model.change(letter, first, second);
        String call = name + ": " + letter + " " + first + " " + second;
        Runs.same(call, change(written(letter, first, second)),
            due == null ? "throws UnsupportedOperationException" : String.valueOf(due));
        if (due == null) {
            keepReason(0);
        } else {
            keep(before);
        }
    }

    private void keepReason(int newIndex) {
        reason = model.reason;
        detail = model.detail;
        index = newIndex;
    }

    private static String written(char letter, int first, int second) {
        switch (letter) {
            case 'k':
                return "key(" + first + ", " + second + ")";
            case 'l':
                return "lock(" + first + ")";
            case 'c':
                return "cut(" + first + ", " + second + ")";
            case 'b':
            case 'u':
                return "bar(" + first + ", " + second + ", " + (letter == 'b') + ")";
            case 's':
                return "slack(" + first + ")";
            case 'p':
                return "put(" + first + ", " + second + ")";
            case 't':
                return "take(" + first + ")";
            default:
                return "wave()";
        }
    }

    private String command(char letter, int first, int second) {
        switch (letter) {
            case 'k':
            case 'c':
                return letter + "" + first + "/" + second;
            case 'b':
            case 'u':
            case 'p':
                return letter + "" + first + second;
            case 'w':
                return "w";
            default:
                return letter + "" + first;
        }
    }

    private void text() {
        Model before = model.copy();
        StringBuilder text = new StringBuilder();
        int count = 1 + next(5);
        boolean isRefused = false;
        for (int i = 0; i < count; i++) {
            char letter = "klccbbusppppttwww".charAt(next(17));
            int first = letter == 'k' || letter == 'l' ? Math.abs(nextSet()) : next(10);
            int second = letter == 'c' ? Math.abs(nextSet()) : letter == 'k' ? next(5) : next(10);
            text.append(i == 0 ? "" : ";").append(command(letter, first, second));
            if (!isRefused && model.change(letter, first, second) == null) {
                isRefused = true;
                keepReason(i);
            }
        }
        type(text.toString());
        Runs.same(name + ": length of " + text, ask().account(11), text.length());
        Runs.same(name + ": " + text, change("commands()"),
            isRefused ? "throws UnsupportedOperationException" : String.valueOf(count));
        Runs.same(name + ": fault of " + text, ask().faultPosition(), -1);
        if (isRefused) {
            model = before;
        } else {
            keep(before);
        }
    }

    private void undo() {
        int size = earlier.size();
        Runs.same(name + ": undo", change("undo()"), size == 0 ? "throws IllegalStateException" : "" + (size - 1));
        if (size > 0) {
            model = earlier.remove(size - 1);
        }
    }

    private void restore() {
        String due = snapshot == null ? "throws IllegalStateException" : "" + snapshot.open();
        Runs.same(name + ": restore", change("restore()"), due);
        if (snapshot != null) {
            model = snapshot.copy();
            earlier.clear();
        }
    }

    private void compare(boolean isWhole) {
        compareReason();
        compareAccounts();
        compareNumbers();
        compareWays();
        if (isWhole) {
            comparePairs();
            compareMost();
            compareOrders();
            compareLines();
        }
    }

    private void compareReason() {
        String due = reason == 0 ? "throws NoSuchElementException" : reason + " " + detail + " " + index;
        String got = answer("reason(0)");
        if (reason != 0) {
            got = got + " " + ask().reason(1) + " " + ask().reason(2);
        }
        Runs.same(name + ": reason", got, due);
    }

    private void compareAccounts() {
        int pairs = 0;
        int costs = 0;
        for (int key = 0; key < model.wards.size(); key++) {
            pairs += fitCount(key);
            costs += model.cutCosts.get(key);
        }
        int[] due = {model.wards.size(), model.pins.size(), model.open(), pairs, model.barred(), model.slack,
            model.waves, model.ways, model.fallen, costs, earlier.size(), 0};
        for (int what = 0; what < due.length; what++) {
            Runs.same(name + ": account " + what, ask().account(what), due[what]);
        }
        int keys = model.wards.size();
        int locks = model.pins.size();
        Runs.same(name + ": meanFits", answer("meanFits()"),
            keys == 0 ? "throws ArithmeticException" : String.valueOf((double) pairs / keys));
        Runs.same(name + ": openShare", answer("openShare()"),
            locks == 0 ? "throws ArithmeticException" : String.valueOf((float) model.open() / locks));
    }

    private int fitCount(int key) {
        int count = 0;
        for (int lock = 0; lock < model.pins.size(); lock++) {
            count += model.fits(key, lock) ? 1 : 0;
        }
        return count;
    }

    private void compareNumbers() {
        int[] levels = model.levels();
        int[][] porters = new int[4][3];
        for (int key = 0; key < model.wards.size(); key++) {
            int porter = model.porters.get(key);
            int[] due = {model.wards.get(key), porter, model.lockWith(key), levels[key], fitCount(key),
                model.cutCosts.get(key)};
            for (int what = 0; what < due.length; what++) {
                Runs.same(name + ": keyOf " + key + " " + what, ask().keyOf(key, what), due[what]);
            }
            int lock = model.lockWith(key);
            Runs.same(name + ": the key " + key + " is in a lock and does not fit it",
                lock >= 0 && !ask().fits(key, lock), false);
            porters[porter][0]++;
            porters[porter][1] += model.lockWith(key) >= 0 ? 1 : 0;
            porters[porter][2] += model.cutCosts.get(key);
        }
        for (int lock = 0; lock < model.pins.size(); lock++) {
            int fitting = 0;
            for (int key = 0; key < model.wards.size(); key++) {
                fitting += model.fits(key, lock) ? 1 : 0;
            }
            int[] due = {model.pins.get(lock), model.holders.get(lock), fitting, model.putCounts.get(lock)};
            for (int what = 0; what < due.length; what++) {
                Runs.same(name + ": lockOf " + lock + " " + what, ask().lockOf(lock, what), due[what]);
            }
        }
        for (int porter = 0; porter < 4; porter++) {
            for (int what = 0; what < 3; what++) {
                Runs.same(name + ": porterOf " + porter, ask().porterOf(porter, what), porters[porter][what]);
            }
        }
    }

    private void compareWays() {
        int last = model.lastLevel();
        Runs.same(name + ": length", answer("length()"),
            last < 0 ? "throws NoSuchElementException" : String.valueOf(last + 1));
        Integer adds = model.copy().wave();
        Runs.same(name + ": adds", ask().adds(), adds == null ? 0 : adds);
        Runs.same(name + ": waves", ask().waves(), model.afterAllWaves().waves - model.waves);
    }

    private void comparePairs() {
        for (int key = 0; key < model.wards.size(); key++) {
            for (int lock = 0; lock < model.pins.size(); lock++) {
                String pair = name + ": pair " + key + " " + lock;
                Runs.same(pair, ask().fits(key, lock), model.fits(key, lock));
                Runs.same(pair, ask().isBarred(key, lock), model.bars[key][lock]);
                Runs.same(pair, ask().costFor(key, lock), model.costFor(key, lock));
            }
        }
    }

    private void compareMost() {
        int shortest = model.shortest();
        Runs.same(name + ": shortest", model.lastLevel(), shortest == 99 ? -1 : shortest - 1);
        int most = Model.largest(model.openSets(-1));
        Runs.same(name + ": most", ask().most(), most);
        Runs.same(name + ": mostAgain", ask().mostAgain(), most);
        for (int lock = 0; lock < model.pins.size(); lock++) {
            Runs.same(name + ": canBeOpen " + lock, ask().canBeOpen(lock), model.canBeOpen(lock));
        }
        for (int key = 0; key < model.wards.size(); key++) {
            Runs.same(name + ": isNeeded " + key, ask().isNeeded(key), Model.largest(model.openSets(key)) < most);
        }
        Model last = model.afterAllWaves();
        int[] beginnings = last.beginnings();
        int held = 0;
        for (int holder : last.holders) {
            held |= holder >= 0 ? 1 << holder : 0;
        }
        Runs.same(name + ": cover's locks", ask().cover(true), beginnings[1]);
        Runs.same(name + ": cover's keys", ask().cover(false), held & ~beginnings[0]);
        Runs.same(name + ": cover's size", Integer.bitCount(ask().cover(true)) + Integer.bitCount(ask().cover(false)), most);
        compareCovered();
    }

    /** "What it is": keys and locks that cover all pairs that fit. */
    private void compareCovered() {
        int locks = ask().cover(true);
        int keys = ask().cover(false);
        for (int key = 0; key < model.wards.size(); key++) {
            for (int lock = 0; lock < model.pins.size(); lock++) {
                boolean isCovered = (keys & 1 << key) != 0 || (locks & 1 << lock) != 0;
                Runs.same(name + ": pair " + key + " " + lock + " fits and is covered by no key and no lock",
                    ask().fits(key, lock) && !isCovered, false);
            }
        }
    }

    private void compareOrders() {
        List<Integer> keys = new ArrayList<>();
        for (int key = 0; key < model.wards.size(); key++) {
            keys.add(key);
        }
        List<Integer> ranks = new ArrayList<>(keys);
        ranks.sort(Comparator.<Integer>comparingInt(this::fitCount)
            .thenComparing(key -> -Integer.bitCount(model.wards.get(key))));
        compareOrder("ranked(", ranks);
        for (int lock = 0; lock < model.pins.size(); lock++) {
            int at = lock;
            List<Integer> order = new ArrayList<>(keys);
            order.removeIf(key -> model.bars[key][at]);
            order.sort(Comparator.comparingInt(key -> model.costFor(key, at)));
            compareOrder("cheapest(" + lock + ", ", order);
        }
    }

    private void compareOrder(String call, List<Integer> due) {
        for (int place = -1; place <= due.size(); place++) {
            boolean isPlace = place >= 0 && place < due.size();
            Runs.same(name + ": " + call + place, answer(call + place + ")"),
                isPlace ? String.valueOf(due.get(place)) : "throws NoSuchElementException");
        }
    }

    private void compareLines() {
        StringBuilder keys = new StringBuilder();
        for (int key = 0; key < model.wards.size(); key++) {
            int lock = model.lockWith(key);
            keys.append(key == 0 ? "" : " ").append(key + "#" + model.wards.get(key) + (lock < 0 ? "" : "-" + lock));
        }
        StringBuilder locks = new StringBuilder();
        for (int lock = 0; lock < model.pins.size(); lock++) {
            int key = model.holders.get(lock);
            locks.append(lock == 0 ? "" : " ").append(lock + "#" + model.pins.get(lock) + (key < 0 ? "" : "-" + key));
        }
        compareLine(false, keys.toString());
        compareLine(true, locks.toString());
    }

    private void compareLine(boolean isLocks, String due) {
        makeRoom(1 + LONGEST_LINE + 1);
        int length = ask().line(isLocks);
        StringBuilder got = new StringBuilder();
        for (int i = 0; i < length; i++) {
            got.append(ask().character(i));
        }
        Runs.same(name + ": line", got.toString(), due);
        Runs.same(name + ": behind the line", answer("character(" + length + ")"),
            "throws IndexOutOfBoundsException");
    }

    /** A text of signs that come in commands, in any order: its fault is where no text could go on. */
    private void tryText() {
        String[] parts = {"k", "l", "c", "b", "u", "p", "t", "s", "w", ";", ";", "/", "0", "1", "7", "9", "12", "k1/0",
            "l63", "c0/5", "p00", "x", " ", "k12", "c1/", "l1;"};
        StringBuilder text = new StringBuilder();
        int count = next(9);
        for (int i = 0; i < count; i++) {
            text.append(parts[next(parts.length)]);
        }
        type(text.toString());
        String got = change("commands()");
        int due = faultOf(text.toString());
        Runs.same("fault of " + text, ask().faultPosition(), due);
        Runs.same("answer to " + text, got.equals("throws IllegalArgumentException"), due >= 0);
    }

    private static int faultOf(String text) {
        for (int end = 1; end <= text.length(); end++) {
            Matcher matcher = TEXT.matcher(text.substring(0, end));
            if (!matcher.matches() && !matcher.hitEnd()) {
                return end - 1;
            }
        }
        return TEXT.matcher(text).matches() ? -1 : text.length();
    }
}
