import java.lang.reflect.Constructor;
import java.lang.reflect.Field;
import java.lang.reflect.Method;
import java.lang.reflect.Modifier;
import java.util.Arrays;
import java.util.Set;
import java.util.TreeSet;

/** The public face: all of the document's, and nothing else. */
public final class FaceTest {
    private static final String FACE = "feed(int int int int int)int end(int)boolean fault(int)int text(int)int rule(int)int "
        + "told(int int)int tap(int int)int now(int)int ago(int int)int risk(int)boolean send(int)int phase(int)int hold(int)int "
        + "set(int int)int drop()int change(int int)int dice(long)int seek()int years(int long)int status(int)int undo()int "
        + "log(int int)int step(int int int)int run(int int)int perform(int)int eye(int int)int opening(int int)int "
        + "weigh(int int int)int map(int)int bears(int)int burst(int int)int bursts()int unrolled(int)int improved(int int)int "
        + "settled(int)int quickest(int)int coming(int int)int gain(int)int worst(int int)int odds(int)int image()int back()int count(int)int";

    public static void main(String[] args) {
        Class<?> c = HuntedEye.class;
        Check.due("public and final", Modifier.isPublic(c.getModifiers()) && Modifier.isFinal(c.getModifiers()), true);
        Set<String> due = new TreeSet<>(Arrays.asList(FACE.replace(" ", "|").replaceAll("\\|(?=[a-z]+\\()", "\n").split("\n")));
        Set<String> names = new TreeSet<>();
        Set<String> found = new TreeSet<>();
        for (Method m : c.getDeclaredMethods()) {
            if (!Modifier.isPrivate(m.getModifiers())) {
                StringBuilder s = new StringBuilder(m.getName()).append('(');
                for (Class<?> p : m.getParameterTypes()) s.append(s.charAt(s.length() - 1) == '(' ? "" : "|").append(p.getName());
                found.add(s.append(')').append(m.getReturnType().getName()).toString());
                names.add(m.getName());
                Check.due("public, not static: " + m, Modifier.isPublic(m.getModifiers()) && !Modifier.isStatic(m.getModifiers()), true);
            }
        }
        Check.due("methods " + found, found.equals(due), true);
        privateNames(c, names);
        fields(c);
        Constructor<?>[] makers = c.getDeclaredConstructors();
        Check.due("one constructor", makers.length == 1 && Modifier.isPublic(makers[0].getModifiers()) && makers[0].getParameterCount() == 0, true);
        Check.finish();
    }

    private static void fields(Class<?> c) {
        Set<String> found = new TreeSet<>();
        for (Field f : c.getDeclaredFields()) {
            if (!Modifier.isPrivate(f.getModifiers())) found.add(f.toString());
        }
        Check.due("constants " + found, found.equals(new TreeSet<>(Arrays.asList(
            "public static final int HuntedEye.NONE", "public static final int HuntedEye.HIDDEN"))), true);
    }

    private static void privateNames(Class<?> c, Set<String> names) {
        for (Method m : c.getDeclaredMethods()) {
            if (Modifier.isPrivate(m.getModifiers())) Check.due("a private method's name: " + m, names.contains(m.getName()), false);
        }
        for (Class<?> inside : c.getDeclaredClasses()) {
            Check.due("static: " + inside, Modifier.isStatic(inside.getModifiers()), true);
            Check.due("not public: " + inside, Modifier.isPublic(inside.getModifiers()), false);
            for (Method m : inside.getDeclaredMethods()) Check.due("a name inside: " + m, names.contains(m.getName()), false);
        }
    }
}
