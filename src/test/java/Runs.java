import java.lang.reflect.InvocationTargetException;
import java.lang.reflect.Method;
import java.lang.reflect.Modifier;
import java.util.ArrayList;
import java.util.HashMap;
import java.util.List;
import java.util.Map;
import java.util.WeakHashMap;

/**
 * Carries out runs of calls that are written as in the document: "key(1, 0) = 0; wave() = throws
 * UnsupportedOperationException". Three shorthands come on top: "= refused 3 7 0" stands for an
 * UnsupportedOperationException after which reason(0), reason(1) and reason(2) are 3, 7 and 0,
 * "type("k1/0;w")" appends each of the characters, and "read() = 0#5" stands for the line as it is.
 */
final class Runs {
    /** "What it is": an object is used for at most 512 calls; a test that needs more asks for what is not promised. */
    static final int MOST_CALLS = 512;

    private static final Map<String, Method> METHODS = new HashMap<>();
    private static final Map<KeyWaves, int[]> CALLS = new WeakHashMap<>();
    private static int wrong = 0;
    private static int checked = 0;

    private Runs() {
    }

    /** Carries out a run on a new object; a call in it that is refused or throws must change nothing. */
    static void check(String name, String calls) {
        KeyWaves lodge = new KeyWaves();
        List<String> before = new ArrayList<>();
        for (String call : callsOf(calls)) {
            carryOut(lodge, name, call);
            if (dueOf(call).startsWith("refused ") || dueOf(call).startsWith("throws ")) {
                Twins.compare(name, before, call);
            }
            before.add(call);
        }
    }

    /** Carries out a run on an object. */
    static void on(KeyWaves lodge, String name, String calls) {
        for (String call : callsOf(calls)) {
            carryOut(lodge, name, call);
        }
    }

    static void same(String name, Object got, Object due) {
        checked++;
        if (!got.equals(due)) {
            wrong++;
            System.out.println(name + ": " + got + ", due is " + due);
        }
    }

    /** Ends the test: with the exit code 1 if an answer was wrong, or if nothing was asked. */
    static void end(String test) {
        System.out.println(test + ": " + checked + " answers, " + wrong + " of them wrong");
        System.exit(wrong == 0 && checked > 0 ? 0 : 1);
    }

    /** The calls of a run; the blanks of a call are single ones. */
    static List<String> callsOf(String calls) {
        List<String> parts = new ArrayList<>();
        StringBuilder part = new StringBuilder();
        boolean isQuoted = false;
        for (char sign : (calls + ";").toCharArray()) {
            if (sign == '"') {
                isQuoted = !isQuoted;
            }
            if (sign == ';' && !isQuoted) {
                addCall(parts, part.toString().strip());
                part.setLength(0);
            } else {
                part.append(sign);
            }
        }
        return parts;
    }

    private static void addCall(List<String> parts, String call) {
        if (!call.isEmpty()) {
            parts.add(call.contains("\"") ? call : call.replaceAll("\\s+", " "));
        }
    }

    /** The call without the answer that is due. */
    static String askedOf(String call) {
        int end = isTyped(call) ? -1 : call.lastIndexOf(" = ");
        return end < 0 ? call : call.substring(0, end);
    }

    private static String dueOf(String call) {
        int end = isTyped(call) ? -1 : call.lastIndexOf(" = ");
        return end < 0 ? "" : call.substring(end + 3);
    }

    private static boolean isTyped(String call) {
        return call.startsWith("type(\"");
    }

    private static String typedIn(String call) {
        return call.substring(6, call.lastIndexOf('"'));
    }

    /** Whether a call does nothing but fill the text buffer. */
    static boolean isAppended(String call) {
        return isTyped(call) || call.startsWith("append(");
    }

    /** The object, for one call more. */
    static KeyWaves use(KeyWaves lodge) {
        int[] count = CALLS.computeIfAbsent(lodge, unused -> new int[1]);
        count[0]++;
        if (count[0] > MOST_CALLS) {
            throw new IllegalStateException("an object would be used for more than " + MOST_CALLS + " calls");
        }
        return lodge;
    }

    /** For how many calls an object can still be used. */
    static int roomOf(KeyWaves lodge) {
        return MOST_CALLS - CALLS.getOrDefault(lodge, new int[1])[0];
    }

    /** Carries out calls, whatever they answer. */
    static void replay(KeyWaves lodge, List<String> calls) {
        for (String call : calls) {
            if (isTyped(call)) {
                type(lodge, typedIn(call));
            } else {
                answer(lodge, askedOf(call));
            }
        }
    }

    private static void carryOut(KeyWaves lodge, String name, String call) {
        if (isTyped(call)) {
            type(lodge, typedIn(call));
            return;
        }
        String asked = askedOf(call);
        String due = dueOf(call);
        if (due.isEmpty()) {
            throw new IllegalArgumentException(name + ": no answer is due in " + call);
        }
        String got = answer(lodge, asked);
        if (due.startsWith("refused ")) {
            same(name + ": " + asked, got, "throws UnsupportedOperationException");
            String reason = answer(lodge, "reason(0)") + " " + answer(lodge, "reason(1)") + " "
                + answer(lodge, "reason(2)");
            same(name + ": the reason of " + asked, reason, due.substring(8));
        } else {
            same(name + ": " + asked, got, due);
        }
    }

    static void type(KeyWaves lodge, String text) {
        for (char sign : text.toCharArray()) {
            use(lodge).append(sign);
        }
    }

    /** The line as it is, read until there is no further character. */
    static String read(KeyWaves lodge) {
        StringBuilder line = new StringBuilder();
        while (line.length() < 100) {
            try {
                line.append(use(lodge).character(line.length()));
            } catch (IndexOutOfBoundsException e) {
                return line.toString();
            }
        }
        return line.toString();
    }

    /** The answer to a call as a text: a number, true, false, or "throws" and the exception. */
    static String answer(KeyWaves lodge, String call) {
        if (call.equals("read()")) {
            return read(lodge);
        }
        String name = call.substring(0, call.indexOf('('));
        String inside = call.substring(call.indexOf('(') + 1, call.lastIndexOf(')')).strip();
        return answer(lodge, methodOf(name), inside.isEmpty() ? new String[0] : inside.split(", *"));
    }

    private static Method methodOf(String name) {
        if (METHODS.isEmpty()) {
            for (Method method : KeyWaves.class.getDeclaredMethods()) {
                if (Modifier.isPublic(method.getModifiers())) {
                    METHODS.put(method.getName(), method);
                }
            }
        }
        if (!METHODS.containsKey(name)) {
            throw new IllegalArgumentException("there is no method " + name);
        }
        return METHODS.get(name);
    }

    private static String answer(KeyWaves lodge, Method method, String[] texts) {
        Class<?>[] types = method.getParameterTypes();
        Object[] arguments = new Object[types.length];
        for (int i = 0; i < types.length; i++) {
            arguments[i] = argument(types[i], texts[i]);
        }
        try {
            return String.valueOf(method.invoke(use(lodge), arguments));
        } catch (InvocationTargetException e) {
            return "throws " + e.getCause().getClass().getSimpleName();
        } catch (IllegalAccessException e) {
            throw new IllegalStateException(e);
        }
    }

    private static Object argument(Class<?> type, String text) {
        if (type == boolean.class) {
            return Boolean.valueOf(text);
        }
        if (type == char.class) {
            return text.startsWith("'") ? (Object) text.charAt(1) : (Object) (char) Integer.parseInt(text);
        }
        return Integer.valueOf(text);
    }
}
