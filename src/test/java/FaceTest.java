import java.lang.reflect.Constructor;
import java.lang.reflect.Field;
import java.lang.reflect.Method;
import java.lang.reflect.Modifier;
import java.util.ArrayList;
import java.util.Arrays;
import java.util.List;
import java.util.TreeSet;

/** The public face is the document's, member by member, and nothing else can be seen from outside. */
public final class FaceTest {
    private static final String[] FACE = {
        "int set(int, long) throws IllegalArgumentException",
        "int copy(int, int) throws IllegalArgumentException",
        "int shift(int, int, int) throws IllegalArgumentException, IllegalStateException",
        "int add(int, int, int) throws IllegalArgumentException, IllegalStateException",
        "int subtract(int, int, int) throws IllegalArgumentException, ArithmeticException",
        "int times(int, int, int) throws IllegalArgumentException, IllegalStateException",
        "int divide(int, int, int, int) throws IllegalArgumentException, ArithmeticException",
        "int power(int, int, int) throws IllegalArgumentException, IllegalStateException",
        "int root(int, int, int) throws IllegalArgumentException",
        "int compare(int, int) throws IllegalArgumentException",
        "int bits(int) throws IllegalArgumentException",
        "long word(int, int) throws IllegalArgumentException",
        "void feed(int, int, int, int, int) throws IllegalStateException",
        "int end(int) throws IllegalArgumentException",
        "int read(int, int) throws IllegalArgumentException, UnsupportedOperationException",
        "int write(int, int) throws IllegalArgumentException, IllegalStateException",
        "int octet(int) throws NoSuchElementException",
    };

    private FaceTest() {
    }

    public static void main(String[] args) {
        Class<?> face = LimbWorks.class;
        Checks.same("public and final", Modifier.PUBLIC | Modifier.FINAL, face.getModifiers());
        List<String> seen = new ArrayList<>();
        List<String> hidden = new ArrayList<>();
        for (Method method : face.getDeclaredMethods()) {
            if (Modifier.isPrivate(method.getModifiers())) {
                hidden.add(method.getName());
            } else {
                seen.add(describe(method));
            }
        }
        Checks.same("methods", new TreeSet<>(Arrays.asList(FACE)), new TreeSet<>(seen));
        for (Method method : face.getMethods()) {
            if (method.getDeclaringClass() == face) {
                Checks.same("no private " + method.getName(), false, hidden.contains(method.getName()));
            }
        }
        for (Field field : face.getDeclaredFields()) {
            Checks.same("private " + field.getName(), true, Modifier.isPrivate(field.getModifiers()));
        }
        for (Constructor<?> constructor : face.getDeclaredConstructors()) {
            Checks.same("the constructor", "public LimbWorks()", constructor.toString());
        }
        for (Class<?> inside : face.getDeclaredClasses()) {
            Checks.same("static " + inside.getName(), true, Modifier.isStatic(inside.getModifiers()));
            Checks.same("not public " + inside.getName(), false, Modifier.isPublic(inside.getModifiers()));
        }
        Checks.finish("FaceTest");
    }

    private static String describe(Method method) {
        return method.getReturnType().getSimpleName() + " " + method.getName() + "("
                + names(method.getParameterTypes()) + ") throws " + names(method.getExceptionTypes());
    }

    private static String names(Class<?>[] types) {
        List<String> names = new ArrayList<>();
        for (Class<?> type : types) {
            names.add(type.getSimpleName());
        }
        return String.join(", ", names);
    }
}
