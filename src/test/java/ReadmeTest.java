import java.io.IOException;
import java.lang.reflect.InvocationTargetException;
import java.lang.reflect.Method;
import java.nio.file.Files;
import java.nio.file.Path;
import java.util.Set;
import java.util.TreeSet;
import java.util.regex.Matcher;
import java.util.regex.Pattern;

/** The example in README.md is made call by call, each held against what stands behind it there. */
public final class ReadmeTest {
    private static final Path README = Path.of("README.md");
    private static final Pattern CALL = Pattern.compile("works\\.(\\w+)\\(([^)]*)\\); *(?:// ([\\w-]+).*)?");

    private ReadmeTest() {
    }

    public static void main(String[] args) throws IOException, IllegalAccessException {
        String text = Files.readString(README);
        int from = text.indexOf("```java\n");
        String example = text.substring(from, text.indexOf("```", from + 3));
        LimbWorks works = new LimbWorks();
        Set<String> used = new TreeSet<>();
        for (String line : example.split("\n")) {
            Matcher call = CALL.matcher(line);
            if (call.matches()) {
                used.add(call.group(1));
                Checks.same("README.md: " + line, String.valueOf(call.group(3)),
                        outcome(works, call.group(1), call.group(2).split(", ")));
            }
        }
        for (Method method : LimbWorks.class.getDeclaredMethods()) {
            if (java.lang.reflect.Modifier.isPublic(method.getModifiers())) {
                Checks.same("the example has " + method.getName(), true, used.contains(method.getName()));
                Checks.same("the table has " + method.getName(), true, text.contains("`" + method.getName() + "("));
            }
        }
        Checks.finish("ReadmeTest");
    }

    /** What the call answers, null for nothing, or the name of what it throws. */
    private static String outcome(LimbWorks works, String name, String[] arguments) throws IllegalAccessException {
        Method method = methodOf(name);
        Class<?>[] types = method.getParameterTypes();
        Object[] values = new Object[types.length];
        for (int i = 0; i < types.length; i++) {
            long value = Long.decode(arguments[i]);
            if (types[i] == long.class) {
                values[i] = value;
            } else {
                values[i] = (int) value;
            }
        }
        try {
            return String.valueOf(method.invoke(works, values));
        } catch (InvocationTargetException e) {
            return e.getCause().getClass().getSimpleName();
        }
    }

    private static Method methodOf(String name) {
        for (Method method : LimbWorks.class.getMethods()) {
            if (method.getName().equals(name)) {
                return method;
            }
        }
        throw new IllegalArgumentException("README.md has a call of " + name);
    }
}
