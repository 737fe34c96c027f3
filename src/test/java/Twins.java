import java.util.ArrayList;
import java.util.List;

/**
 * Two objects with the same calls behind them, but that one of them had one call more: they must answer alike
 * whatever that call must leave as it is. Each list of questions is asked of new twins, so that no object is used
 * for more than 512 calls.
 */
final class Twins {
    private static final int MOST_KEPT = 8;

    private final String name;
    private final List<String> with;
    private final List<String> without;
    private final String added;
    private final boolean isRefused;
    private final int keys;
    private final int locks;
    private final int kept;

    private Twins(String name, List<String> before, String call) {
        this.name = name + ": unchanged by " + Runs.askedOf(call);
        added = call.substring(0, call.indexOf('('));
        // What a refused call keeps is its reason; all else must be as if it had not come.
        isRefused = call.contains("refused ") || call.contains("UnsupportedOperationException");
        with = new ArrayList<>(before);
        with.add(call);
        without = added.equals("commands") ? withoutLatestText(before) : before;
        KeyWaves lodge = new KeyWaves();
        Runs.replay(lodge, before);
        keys = lodge.account(0);
        locks = lodge.account(1);
        kept = lodge.account(10);
    }

    /** Compares an object with some calls behind it, and one more, to an object without that one. */
    static void compare(String name, List<String> before, String call) {
        Twins twins = new Twins(name, before, call);
        twins.ask("the numbers", twins.numbers());
        twins.ask("the pairs", twins.pairs());
        twins.ask("the costs", twins.costs());
        for (int undone = 1; undone <= Math.min(twins.kept, MOST_KEPT) + 1; undone++) {
            twins.ask("after " + undone + " times undo", twins.wholeAfter("undo()", undone));
        }
        if (!twins.added.equals("save")) {
            twins.ask("after restore", twins.wholeAfter("restore()", 1));
        }
        if (!twins.added.equals("append")) {
            twins.ask("after commands", twins.wholeAfter("commands()", 1));
        }
    }

    /** The calls but for those that filled the text buffer: so it is empty, as it is after commands. */
    private static List<String> withoutLatestText(List<String> before) {
        List<String> calls = new ArrayList<>();
        for (int i = before.size() - 1, seen = 0; i >= 0; i--) {
            String call = before.get(i);
            seen += call.startsWith("commands(") ? 1 : 0;
            if (seen > 0 || !Runs.isAppended(call)) {
                calls.add(0, call);
            }
        }
        return calls;
    }

    private void ask(String what, List<String> questions) {
        List<String> got = answers(with, questions);
        List<String> due = answers(without, questions);
        Runs.same(name + ", " + what, differences(questions, got, due), "");
    }

    private static String differences(List<String> questions, List<String> got, List<String> due) {
        StringBuilder text = new StringBuilder();
        for (int i = 0; i < questions.size(); i++) {
            if (!got.get(i).equals(due.get(i))) {
                text.append(questions.get(i) + " = " + got.get(i) + " and not " + due.get(i) + "; ");
            }
        }
        return text.toString();
    }

    private static List<String> answers(List<String> behind, List<String> questions) {
        KeyWaves lodge = new KeyWaves();
        Runs.replay(lodge, behind);
        List<String> answers = new ArrayList<>();
        for (String question : questions) {
            answers.add(Runs.answer(lodge, question));
        }
        return answers;
    }

    private List<String> numbers() {
        List<String> calls = new ArrayList<>();
        for (int what = 0; what < 12; what++) {
            if (what != 11 || !added.equals("append")) {
                calls.add("account(" + what + ")");
            }
        }
        for (int what = 0; what < 3 && !isRefused; what++) {
            calls.add("reason(" + what + ")");
        }
        if (!added.equals("commands")) {
            calls.add("faultPosition()");
        }
        if (!added.equals("line")) {
            calls.add("read()");
        }
        addEach(calls, "keyOf(", keys, 6);
        addEach(calls, "lockOf(", locks, 4);
        addEach(calls, "porterOf(", 4, 3);
        calls.addAll(List.of("meanFits()", "openShare()", "length()", "adds()", "waves()", "most()", "mostAgain()",
            "cover(true)", "cover(false)"));
        return calls;
    }

    private List<String> pairs() {
        List<String> calls = new ArrayList<>();
        addEach(calls, "fits(", keys, locks);
        addEach(calls, "isBarred(", keys, locks);
        for (int number = 0; number <= 10; number++) {
            calls.add("canBeOpen(" + number + ")");
            calls.add("isNeeded(" + number + ")");
            calls.add("ranked(" + number + ")");
        }
        return calls;
    }

    private List<String> costs() {
        List<String> calls = new ArrayList<>();
        addEach(calls, "costFor(", keys, locks);
        addEach(calls, "cheapest(", locks, keys + 1);
        return calls;
    }

    /** All that can be undone, asked after a call that has come some times. */
    private List<String> wholeAfter(String call, int times) {
        List<String> calls = new ArrayList<>();
        for (int i = 0; i < times; i++) {
            calls.add(call);
        }
        for (int what = 0; what <= 10; what++) {
            calls.add("account(" + what + ")");
        }
        for (int number = 0; number < 10; number++) {
            for (int what : new int[] {0, 1, 2, 5}) {
                calls.add("keyOf(" + number + ", " + what + ")");
            }
            for (int what : new int[] {0, 1, 3}) {
                calls.add("lockOf(" + number + ", " + what + ")");
            }
        }
        addEach(calls, "isBarred(", Math.max(keys, 1), Math.max(locks, 1));
        return calls;
    }

    private static void addEach(List<String> calls, String method, int firsts, int seconds) {
        for (int first = 0; first < firsts; first++) {
            for (int second = 0; second < seconds; second++) {
                calls.add(method + first + ", " + second + ")");
            }
        }
    }
}
