import java.io.IOException;
import java.lang.reflect.Constructor;
import java.lang.reflect.Field;
import java.lang.reflect.Method;
import java.lang.reflect.Modifier;
import java.nio.file.Files;
import java.nio.file.Path;
import java.util.Set;
import java.util.TreeSet;
import java.util.regex.Matcher;
import java.util.regex.Pattern;

/** The public face: all of the document's (told by -Ddoc=..), and nothing else. */
public final class FaceTest {
    private static final Pattern METHOD = Pattern.compile("(int|boolean|long) (\\w+)\\(([^)]*)\\)(?: throws (\\w+))?");
    private static final Pattern CONSTANT = Pattern.compile("public static final int (\\w+) = (-?\\d+);");

    public static void main(String[] args) throws IOException, IllegalAccessException {
        String doc = System.getProperty("doc");
        Check.due("-Ddoc is told", doc != null, true);
        if (doc != null) {
            String text = Files.readString(Path.of(doc));
            String face = text.substring(text.indexOf("public final class HuntedEye {"), text.indexOf("## Terms"));
            Class<?> c = HuntedEye.class;
            Check.due("public and final", Modifier.isPublic(c.getModifiers()) && Modifier.isFinal(c.getModifiers()), true);
            methods(c, face, text.substring(text.indexOf("## Promise 1:")));
            constants(c, face);
            Constructor<?>[] makers = c.getDeclaredConstructors();
            Check.due("one constructor", makers.length == 1 && Modifier.isPublic(makers[0].getModifiers()) && makers[0].getParameterCount() == 0, true);
        }
        Check.finish();
    }

    private static void methods(Class<?> c, String face, String promises) {
        Set<String> names = new TreeSet<>();
        Set<String> found = new TreeSet<>();
        for (Method m : c.getDeclaredMethods()) {
            if (!Modifier.isPrivate(m.getModifiers())) {
                found.add(told(m));
                names.add(m.getName());
                Check.due("public, not static: " + m, Modifier.isPublic(m.getModifiers()) && !Modifier.isStatic(m.getModifiers()), true);
            }
        }
        Check.due("methods", names.size(), 43);
        Check.due("methods as the face has them " + found, found.equals(told(face)), true);
        Check.due("methods as the promises have them " + found, found.equals(told(promises)), true);
        privateNames(c, names);
    }

    private static String told(Method m) {
        StringBuilder s = new StringBuilder(m.getReturnType().getName()).append(' ').append(m.getName()).append('(');
        for (Class<?> p : m.getParameterTypes()) s.append(p.getName()).append(' ');
        s.append(')');
        for (Class<?> e : m.getExceptionTypes()) s.append(e.getSimpleName());
        return s.toString();
    }

    private static Set<String> told(String text) {
        Set<String> told = new TreeSet<>();
        Matcher m = METHOD.matcher(text);
        while (m.find()) {
            StringBuilder s = new StringBuilder(m.group(1)).append(' ').append(m.group(2)).append('(');
            for (String one : m.group(3).split(",")) {
                if (!one.isBlank()) s.append(one.trim().split(" ")[0]).append(' ');
            }
            told.add(s.append(')').append(m.group(4) == null ? "" : m.group(4)).toString());
        }
        return told;
    }

    private static void constants(Class<?> c, String face) throws IllegalAccessException {
        Set<String> found = new TreeSet<>();
        for (Field f : c.getDeclaredFields()) {
            if (!Modifier.isPrivate(f.getModifiers())) {
                Check.due("a constant: " + f, f.toString().startsWith("public static final int "), true);
                found.add(f.getName() + f.get(null));
            }
        }
        Set<String> told = new TreeSet<>();
        Matcher m = CONSTANT.matcher(face);
        while (m.find()) told.add(m.group(1) + m.group(2));
        Check.due("constants " + found, found.equals(told), true);
    }

    private static void privateNames(Class<?> c, Set<String> names) {
        for (Method m : c.getDeclaredMethods()) {
            if (Modifier.isPrivate(m.getModifiers())) Check.due("a private method's name: " + m, names.contains(m.getName()), false);
        }
        for (Class<?> inside : c.getDeclaredClasses()) {
            Check.due("static: " + inside, Modifier.isStatic(inside.getModifiers()), true);
            Check.due("not public: " + inside, Modifier.isPublic(inside.getModifiers()), false);
            for (Method m : inside.getDeclaredMethods()) Check.due("a name inside: " + m, names.contains(m.getName()), false);
        }
    }
}
