import java.io.IOException;
import java.nio.file.Files;
import java.nio.file.Path;
import java.util.List;
import java.util.Map;
import java.util.Set;
import java.util.TreeMap;
import java.util.TreeSet;
import java.util.regex.Matcher;
import java.util.regex.Pattern;

/** Those rules of LANGUAGE.md that can be told from the source's text alone; run from the project's folder. */
public final class LanguageTest {
    private static final Path SOURCE = Path.of("src/main/java/LimbWorks.java");
    private static final Set<String> IMPORTS = Set.of("java.util.Arrays", "java.util.NoSuchElementException");
    private static final List<String> FORBIDDEN = List.of("->", "::", "\\bfinally\\b", "\\bsynchronized\\b",
            "\\bassert\\b", "\\bprotected\\b", "\\bpackage\\b", "\\btry\\b", "Exact\\(", "\\bstatic \\{",
            "\\bString\\b", "\\bdouble\\b", "\\bfloat\\b");

    /** What rule 4 names, and no "like" of it, as far as the class could use it. */
    private static final Set<String> LIBRARY = Set.of("Integer.bitCount(", "Integer.compare(", "Long.bitCount(",
            "Long.compare(", "Math.max(", "Math.min(", "Math.abs(", "Math.floorDiv(", "Math.floorMod(",
            "System.arraycopy(", "Arrays.copyOf(", "Arrays.copyOfRange(", "Arrays.fill(");

    /** A method begins behind 4 or 8 spaces and ends at the brace behind as many. */
    private static final Pattern METHOD = Pattern.compile("(?m)^( {4}| {8})"
            + "((?:public |private )?(?:static )?\\w+(?:\\[\\])? ?\\w*)\\(([^)]*)\\)[^;{]*\\{$");

    private LanguageTest() {
    }

    public static void main(String[] args) throws IOException {
        String code = Files.readString(SOURCE).replaceAll("(?s)/\\*.*?\\*/", "").replaceAll("//.*", "");
        for (String word : FORBIDDEN) {
            Checks.same("no " + word, false, Pattern.compile(word).matcher(code).find());
        }
        Matcher imports = Pattern.compile("import ([\\w.]+);").matcher(code);
        while (imports.find()) {
            Checks.same("import " + imports.group(1), true, IMPORTS.contains(imports.group(1)));
        }
        checkLibrary(code.replaceAll("import .*", ""));
        checkStaticFields(code);
        checkMethods(code);
        checkMaking(code);
        checkDepth(code);
        Checks.finish("LanguageTest");
    }

    /** Rule 4: whatever stands behind a class's name and a dot, a method or a field, is named by the rule. */
    private static void checkLibrary(String code) {
        Matcher uses = Pattern.compile("\\b[A-Z]\\w*\\s*\\.\\s*\\w+\\(?").matcher(code);
        int count = 0;
        while (uses.find()) {
            count++;
            Checks.same("of the library: " + uses.group(), true, LIBRARY.contains(uses.group()));
        }
        Checks.same("uses of the library seen: " + count, true, count > 10);
    }

    private static void checkStaticFields(String code) {
        Matcher fields = Pattern.compile("(?m)^ +(.*\\bstatic\\b.*(=.*)?;)$").matcher(code);
        while (fields.find()) {
            boolean constant = fields.group(1).matches("private static final (int|long) [A-Z_]+ = .*");
            Checks.same("a constant: " + fields.group(1), true, constant);
        }
    }

    private static void checkMethods(String code) {
        Matcher methods = METHOD.matcher(code);
        int count = 0;
        while (methods.find()) {
            count++;
            String name = methods.group(2);
            int parameters = methods.group(3).isEmpty() ? 0 : methods.group(3).split(",").length;
            Checks.same("parameters of " + name + ": " + parameters, true, parameters <= 7);
            int lines = bodyOf(code, methods).split("\n").length;
            Checks.same("lines of " + name + ": " + lines, true, lines <= 60);
        }
        Checks.same("methods seen: " + count, true, count > 40);
    }

    private static String bodyOf(String code, Matcher method) {
        return code.substring(method.start(), code.indexOf("\n" + method.group(1) + "}", method.start()));
    }

    /** Rules 6 and 12: all is made with the object, but for exceptions, which are thrown where they are made. */
    private static void checkMaking(String code) {
        for (String line : code.split("\n")) {
            if (line.contains("new ")) {
                boolean fine = line.matches(" +throw new \\w+\\(\\);| +(private )?final [\\w\\[\\]]+ \\w+ = new .*;")
                        || line.strip().equals("registers[i] = new Natural();");
                Checks.same("made with the object: " + line.strip(), true, fine);
            }
        }
    }

    /** Rule 11: no chain of calls from the face on goes through more than eight methods, each counted once. */
    private static void checkDepth(String code) {
        Map<String, Set<String>> calls = new TreeMap<>();
        Matcher methods = METHOD.matcher(code);
        while (methods.find()) {
            String name = methods.group(2).replaceAll(".* ", "");
            String body = bodyOf(code, methods);
            Matcher called = Pattern.compile("(?<!new )\\b(\\w+)\\(").matcher(body.substring(body.indexOf('{')));
            Set<String> names = calls.computeIfAbsent(name, none -> new TreeSet<>());
            while (called.find()) {
                names.add(called.group(1));
            }
        }
        for (String name : calls.keySet()) {
            int depth = depthFrom(name, calls, new TreeSet<>());
            Checks.same("calls from " + name + " on: " + depth, true, depth <= 8);
        }
        Checks.same("chains of calls are seen", true, depthFrom("root", calls, new TreeSet<>()) > 4);
    }

    private static int depthFrom(String name, Map<String, Set<String>> calls, Set<String> open) {
        if (!calls.containsKey(name) || !open.add(name)) {
            return 0;
        }
        int deepest = 0;
        for (String next : calls.get(name)) {
            deepest = Math.max(deepest, depthFrom(next, calls, open));
        }
        open.remove(name);
        return deepest + 1;
    }
}
