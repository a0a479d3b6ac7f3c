import java.io.File;
import java.io.IOException;
import java.io.PrintWriter;
import java.io.StringWriter;
import java.lang.reflect.Field;
import java.lang.reflect.Method;
import java.lang.reflect.Modifier;
import java.nio.file.Files;
import java.nio.file.Path;
import java.util.ArrayList;
import java.util.Arrays;
import java.util.HashMap;
import java.util.HashSet;
import java.util.List;
import java.util.Map;
import java.util.Set;
import java.util.regex.Matcher;
import java.util.regex.Pattern;
import java.util.spi.ToolProvider;

/** The rules of LANGUAGE.md that can be seen from the source (told by -Dmain=..) and from what is compiled of it. */
public final class LanguageTest {
    /** Words of Java that no rule leaves to the program, and those that it has no need of. */
    private static final Pattern NEVER = Pattern.compile("->|::|\\b(catch|try|finally|synchronized|assert|volatile|native|goto|instanceof|record|sealed"
        + "|getMessage|hashCode|getClass|toString|System\\.(?!arraycopy)\\w+|\\w+Exact|Random|Thread|double|float)\\b");
    private static final Pattern THROW = Pattern.compile("\\bthrow\\b(?! new (IllegalStateException|IllegalArgumentException|IndexOutOfBoundsException"
        + "|ArithmeticException|UnsupportedOperationException|NoSuchElementException|RuntimeException)\\((\"[^\"]*\")?\\);)");
    private static final Pattern LIBRARY = Pattern.compile("\\b(Math|Integer|Long|Arrays)\\.(\\w+)");
    private static final Set<String> FUNCTIONS = Set.of("compare", "max", "min", "abs", "bitCount", "floorDiv", "floorMod", "copyOf", "copyOfRange", "fill");
    private static final Pattern CALLED = Pattern.compile("// Method ([^:]+):");
    private static final Pattern METHOD = Pattern.compile("^  (?:[\\w\\[\\].$<>]+ )*([\\w$.]+)\\(.*\\)(?: throws [\\w.]+)?;$");

    public static void main(String[] args) throws IOException {
        String main = System.getProperty("main");
        Check.due("-Dmain is told", main != null, true);
        if (main != null) {
            String source = Files.readString(Path.of(main));
            String code = withoutComments(source);
            words(code);
            lengths(code);
            for (Class<?> c : classes()) fieldsAndParameters(c);
            depth();
        }
        Check.finish();
    }

    private static String withoutComments(String source) {
        return source.replaceAll("(?s)/\\*.*?\\*/", "").replaceAll("//[^\n]*", "");
    }

    private static void words(String code) {
        Check.due("rule 4: what is imported", code.replaceAll("import java\\.util\\.NoSuchElementException;", "").contains("import "), false);
        Matcher never = NEVER.matcher(code);
        while (never.find()) Check.due("rules 2 to 6: " + never.group(), true, false);
        Check.due("rule 6: what is thrown", THROW.matcher(code).find(), false);
        Matcher library = LIBRARY.matcher(code);
        while (library.find()) Check.due("rule 4: " + library.group(), FUNCTIONS.contains(library.group(2)), true);
        Check.due("rule 5: a static block", code.contains("static {"), false);
        Check.due("rule 3: rows of rows of rows", code.contains("[][]["), false);
        Check.due("rule 10: texts joined by +", Pattern.compile("\"\\s*\\+|\\+\\s*\"").matcher(code).find(), false);
        for (int i = 0; i < code.length(); i++) {
            if (code.charAt(i) > 126) Check.due("rule 4: a sign beyond 127", code.charAt(i), ' ');
        }
    }

    /** Methods begin with four or eight blanks and end with a } behind as many. */
    private static void lengths(String code) {
        List<String> lines = Arrays.asList(code.split("\n"));
        Pattern head = Pattern.compile("^( {4}| {8})(?=\\S)[\\w\\[\\]<> ]+\\([^;]*\\)( throws \\w+)? \\{$");
        for (int i = 0; i < lines.size(); i++) {
            Matcher m = head.matcher(lines.get(i));
            if (m.find()) {
                int end = i;
                while (end < lines.size() && !lines.get(end).equals(m.group(1) + "}")) end++;
                Check.due("rule 11: lines of " + lines.get(i).trim(), end - i <= 60, true);
            }
        }
    }

    private static List<Class<?>> classes() {
        List<Class<?>> classes = new ArrayList<>(Arrays.asList(HuntedEye.class.getDeclaredClasses()));
        classes.add(HuntedEye.class);
        Check.due("rule 11: classes " + classes.size(), classes.size() <= 12, true);
        return classes;
    }

    private static void fieldsAndParameters(Class<?> c) {
        int own = 0;
        for (Field f : c.getDeclaredFields()) {
            boolean isStatic = Modifier.isStatic(f.getModifiers());
            own += isStatic ? 0 : 1;
            Check.due("rule 5: final " + f, !isStatic || Modifier.isFinal(f.getModifiers()), true);
        }
        Check.due("rule 11: fields of " + c + ": " + own, own <= 20, true);
        Check.due("rule 2: classes in " + c, c == HuntedEye.class || c.getDeclaredClasses().length == 0, true);
        for (Method m : c.getDeclaredMethods()) Check.due("rule 11: parameters of " + m, m.getParameterCount() <= 7, true);
    }

    /** Rule 11: calls that are no recursion go at most eight deep, that of the face being the first. */
    private static void depth() {
        ToolProvider javap = ToolProvider.findFirst("javap").orElse(null);
        if (javap == null) {
            return;
        }
        Map<String, Set<String>> calls = new HashMap<>();
        for (Class<?> c : classes()) {
            StringWriter told = new StringWriter();
            PrintWriter to = new PrintWriter(told);
            javap.run(to, to, "-c", "-p", "-cp", System.getProperty("java.class.path").split(File.pathSeparator)[0], c.getName());
            read(c.getName(), told.toString(), calls);
        }
        Check.due("methods are found", calls.size() > 100, true);
        for (String method : calls.keySet()) {
            if (method.startsWith("HuntedEye.")) {
                int deep = deep(method, calls, new HashSet<>());
                Check.due("rule 11: calls open in " + method + ": " + deep, deep <= 8, true);
            }
        }
    }

    private static void read(String name, String told, Map<String, Set<String>> calls) {
        String method = name + ".none";
        for (String line : told.split("\n")) {
            Matcher head = METHOD.matcher(line);
            if (head.find()) method = name + "." + (head.group(1).equals(name) ? "<init>" : head.group(1));
            Matcher called = CALLED.matcher(line);
            if (called.find()) {
                String other = called.group(1).replace("\"", "");
                calls.computeIfAbsent(method, k -> new HashSet<>()).add(other.contains(".") ? other : name + "." + other);
            } else {
                calls.computeIfAbsent(method, k -> new HashSet<>());
            }
        }
    }

    private static int deep(String method, Map<String, Set<String>> calls, Set<String> open) {
        if (!calls.containsKey(method) || !open.add(method)) {
            return 0;
        }
        int most = 0;
        for (String other : calls.get(method)) most = Math.max(most, deep(other, calls, open));
        open.remove(method);
        return most + 1;
    }
}
