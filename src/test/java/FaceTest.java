import java.lang.reflect.Constructor;
import java.lang.reflect.Field;
import java.lang.reflect.Member;
import java.lang.reflect.Method;
import java.lang.reflect.Modifier;
import java.util.ArrayList;
import java.util.Arrays;
import java.util.Collections;
import java.util.List;

/** "The public face": the class has just the constructor and the methods that it names, and no other member. */
final class FaceTest {
    private static final String FACE = """
        public int key(int wards, int porter) throws UnsupportedOperationException;
        public int lock(int pins) throws UnsupportedOperationException;
        public int cut(int key, int wards) throws UnsupportedOperationException;
        public int bar(int key, int lock, boolean isBarred) throws UnsupportedOperationException;
        public int slack(int wards) throws UnsupportedOperationException;
        public int put(int key, int lock) throws UnsupportedOperationException;
        public int take(int key) throws UnsupportedOperationException;
        public int wave() throws UnsupportedOperationException;
        public int keyOf(int key, int what) throws IndexOutOfBoundsException, IllegalArgumentException;
        public int lockOf(int lock, int what) throws IndexOutOfBoundsException, IllegalArgumentException;
        public boolean fits(int key, int lock) throws IndexOutOfBoundsException;
        public boolean isBarred(int key, int lock) throws IndexOutOfBoundsException;
        public int costFor(int key, int lock) throws IndexOutOfBoundsException;
        public int cheapest(int lock, int place) throws IndexOutOfBoundsException, NoSuchElementException;
        public int length() throws NoSuchElementException;
        public int adds();
        public int waves();
        public int most();
        public int mostAgain();
        public int cover(boolean isLocks);
        public boolean canBeOpen(int lock) throws IndexOutOfBoundsException;
        public boolean isNeeded(int key) throws IndexOutOfBoundsException;
        public int porterOf(int porter, int what) throws IllegalArgumentException;
        public int ranked(int place) throws NoSuchElementException;
        public int append(char character) throws IllegalStateException;
        public int commands() throws IllegalArgumentException, UnsupportedOperationException;
        public int faultPosition();
        public int reason(int what) throws IllegalArgumentException, NoSuchElementException;
        public int line(boolean isLocks);
        public char character(int index) throws IndexOutOfBoundsException;
        public double meanFits() throws ArithmeticException;
        public float openShare() throws ArithmeticException;
        public int account(int what) throws IllegalArgumentException;
        public int undo() throws IllegalStateException;
        public int save();
        public int restore() throws IllegalStateException;
        """;

    public static void main(String[] arguments) {
        methods();
        members();
        Runs.end("FaceTest");
    }

    private static void methods() {
        List<String> due = new ArrayList<>();
        for (String line : FACE.split("\n")) {
            due.add(line.replaceAll("(int|boolean|char) \\w+([,)])", "$1$2").replace(";", ""));
        }
        List<String> got = new ArrayList<>();
        for (Method method : KeyWaves.class.getDeclaredMethods()) {
            if (!Modifier.isPrivate(method.getModifiers())) {
                got.add(written(method));
            }
        }
        Collections.sort(due);
        Collections.sort(got);
        Runs.same("the public face: its methods", String.join("\n", got), String.join("\n", due));
        for (Method method : KeyWaves.class.getDeclaredMethods()) {
            boolean isPrivate = Modifier.isPrivate(method.getModifiers());
            Runs.same("a private method bears no name of a public one: " + method.getName(),
                isPrivate && FACE.contains(" " + method.getName() + "("), false);
        }
    }

    private static String written(Method method) {
        StringBuilder text = new StringBuilder(Modifier.toString(method.getModifiers()));
        text.append(' ').append(method.getReturnType().getSimpleName()).append(' ').append(method.getName());
        text.append('(').append(names(method.getParameterTypes())).append(')');
        Class<?>[] thrown = method.getExceptionTypes();
        return text + (thrown.length == 0 ? "" : " throws " + names(thrown));
    }

    private static String names(Class<?>[] types) {
        List<String> names = new ArrayList<>();
        for (Class<?> type : types) {
            names.add(type.getSimpleName());
        }
        return String.join(", ", names);
    }

    private static void members() {
        Class<?> face = KeyWaves.class;
        Runs.same("the class", Modifier.toString(face.getModifiers()), "public final");
        Runs.same("the class has no package", face.getPackageName(), "");
        Runs.same("what the class extends", face.getSuperclass(), Object.class);
        Runs.same("what the class implements", face.getInterfaces().length, 0);
        Constructor<?>[] constructors = face.getDeclaredConstructors();
        Runs.same("promise 1: its constructor", Arrays.toString(constructors), "[public KeyWaves()]");
        for (Field field : face.getDeclaredFields()) {
            Runs.same("no other member: " + field.getName(), isPrivate(field), true);
            boolean isShared = Modifier.isStatic(field.getModifiers()) && !Modifier.isFinal(field.getModifiers());
            Runs.same("no state that objects share: " + field.getName(), isShared, false);
        }
        for (Class<?> inside : face.getDeclaredClasses()) {
            int modifiers = inside.getModifiers();
            Runs.same("no other public member: " + inside.getSimpleName(),
                Modifier.isPublic(modifiers) || Modifier.isProtected(modifiers), false);
        }
    }

    private static boolean isPrivate(Member member) {
        return Modifier.isPrivate(member.getModifiers());
    }
}
