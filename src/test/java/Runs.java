import java.lang.reflect.InvocationTargetException;
import java.lang.reflect.Method;

/**
 * Carries out runs of calls that are written as in the document: "key(1, 0) = 0; wave() = throws
 * UnsupportedOperationException". Two shorthands come on top: "= refused 3 7 0" stands for an
 * UnsupportedOperationException after which reason(0), reason(1) and reason(2) are 3, 7 and 0, and
 * "type("k1/0;w")" appends each of the characters.
 */
final class Runs {
    private static int wrong = 0;
    private static int checked = 0;

    private Runs() {
    }

    /** Carries out a run on a new object. */
    static void check(String name, String calls) {
        on(new KeyWaves(), name, calls);
    }

    /** Carries out a run on an object. */
    static void on(KeyWaves lodge, String name, String calls) {
        for (String call : splitOutsideQuotes(calls)) {
            String one = call.strip();
            if (!one.isEmpty()) {
                carryOut(lodge, name, one);
            }
        }
    }

    static void same(String name, Object got, Object due) {
        checked++;
        if (!got.equals(due)) {
            wrong++;
            System.out.println(name + ": " + got + ", due is " + due);
        }
    }

    /** Ends the test: with the exit code 1 if an answer was wrong, or if nothing was asked. */
    static void end(String test) {
        System.out.println(test + ": " + checked + " answers, " + wrong + " of them wrong");
        System.exit(wrong == 0 && checked > 0 ? 0 : 1);
    }

    private static java.util.List<String> splitOutsideQuotes(String calls) {
        java.util.List<String> parts = new java.util.ArrayList<>();
        StringBuilder part = new StringBuilder();
        boolean isQuoted = false;
        for (char sign : calls.toCharArray()) {
            if (sign == '"') {
                isQuoted = !isQuoted;
            }
            if (sign == ';' && !isQuoted) {
                parts.add(part.toString());
                part.setLength(0);
            } else {
                part.append(sign);
            }
        }
        parts.add(part.toString());
        return parts;
    }

    private static void carryOut(KeyWaves lodge, String name, String call) {
        if (call.startsWith("type(\"")) {
            type(lodge, call.substring(6, call.lastIndexOf('"')));
            return;
        }
        int end = call.replaceAll("\\s", " ").lastIndexOf(" = ");
        if (end < 0) {
            throw new IllegalArgumentException(name + ": no answer is due in " + call);
        }
        String due = call.substring(end + 3).strip().replaceAll("\\s+", " ");
        String asked = call.substring(0, end).strip();
        String got = answer(lodge, asked);
        if (due.startsWith("refused ")) {
            same(name + ": " + asked, got, "throws UnsupportedOperationException");
            String reason = answer(lodge, "reason(0)") + " " + answer(lodge, "reason(1)") + " "
                + answer(lodge, "reason(2)");
            same(name + ": the reason of " + asked, reason, due.substring(8));
        } else {
            same(name + ": " + asked, got, due);
        }
    }

    static void type(KeyWaves lodge, String text) {
        for (char sign : text.toCharArray()) {
            lodge.append(sign);
        }
    }

    /** The answer to a call as a text: a number, true, false, or "throws" and the exception. */
    static String answer(KeyWaves lodge, String call) {
        String name = call.substring(0, call.indexOf('('));
        String inside = call.substring(call.indexOf('(') + 1, call.lastIndexOf(')')).strip();
        String[] texts = inside.isEmpty() ? new String[0] : inside.split(", *");
        for (Method method : KeyWaves.class.getDeclaredMethods()) {
            boolean isPublic = java.lang.reflect.Modifier.isPublic(method.getModifiers());
            if (isPublic && method.getName().equals(name)) {
                return answer(lodge, method, texts);
            }
        }
        throw new IllegalArgumentException("there is no method " + name);
    }

    private static String answer(KeyWaves lodge, Method method, String[] texts) {
        Class<?>[] types = method.getParameterTypes();
        Object[] arguments = new Object[types.length];
        for (int i = 0; i < types.length; i++) {
            arguments[i] = argument(types[i], texts[i]);
        }
        try {
            return String.valueOf(method.invoke(lodge, arguments));
        } catch (InvocationTargetException e) {
            return "throws " + e.getCause().getClass().getSimpleName();
        } catch (IllegalAccessException e) {
            throw new IllegalStateException(e);
        }
    }

    private static Object argument(Class<?> type, String text) {
        if (type == boolean.class) {
            return Boolean.valueOf(text);
        }
        if (type == char.class) {
            return text.startsWith("'") ? (Object) text.charAt(1) : (Object) (char) Integer.parseInt(text);
        }
        return Integer.valueOf(text);
    }
}
