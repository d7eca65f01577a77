import java.lang.reflect.Constructor;
import java.lang.reflect.Field;
import java.lang.reflect.Method;
import java.lang.reflect.Modifier;
import java.util.Arrays;
import java.util.Set;
import java.util.TreeSet;
import java.util.regex.Matcher;
import java.util.regex.Pattern;

/** The class shows the document's face, and nothing else. */
public final class FaceTest {
    private static final Pattern CONSTANTS = Pattern.compile("public static final int ([^;]*);");
    private static final Pattern METHOD = Pattern.compile("public (int \\w+\\([^)]*\\));");
    private static final int MOST_CONSTANTS = 18;
    private static final int MOST_METHODS = 25;

    public static void main(String[] args) throws Exception {
        String face = DocumentText.face();
        constants(face);
        methods(face);
        constructor(face);
        Check.finish();
    }

    private static void constants(String face) throws Exception {
        Set<String> due = new TreeSet<>();
        Matcher found = CONSTANTS.matcher(face);
        while (found.find()) {
            due.addAll(Arrays.asList(found.group(1).split(", ")));
        }
        Check.due("constants of the document", due.size(), MOST_CONSTANTS);
        Set<String> shown = new TreeSet<>();
        for (Field field : CoughLamps.class.getDeclaredFields()) {
            if (!Modifier.isPrivate(field.getModifiers())) {
                Check.holds(field + " is a constant",
                        field.getModifiers() == (Modifier.PUBLIC | Modifier.STATIC | Modifier.FINAL));
                Check.holds(field + " is an int", field.getType() == int.class);
                shown.add(field.getName() + " = " + field.getInt(null));
            }
        }
        same("constants", due, shown);
    }

    private static void methods(String face) {
        Set<String> due = new TreeSet<>();
        Matcher found = METHOD.matcher(face);
        while (found.find()) {
            due.add(found.group(1).replaceAll("(int|long) \\w+(?=[,)])", "$1"));
        }
        Check.due("methods of the document", due.size(), MOST_METHODS);
        Set<String> shown = new TreeSet<>();
        for (Method method : CoughLamps.class.getDeclaredMethods()) {
            if (!Modifier.isPrivate(method.getModifiers())) {
                Check.holds(method + " is public alone", method.getModifiers() == Modifier.PUBLIC);
                shown.add(method.getReturnType() + " " + method.getName() + typesOf(method.getParameterTypes()));
            }
        }
        same("methods", due, shown);
    }

    private static void constructor(String face) {
        Check.holds("the document has a constructor without parameters", face.contains("public CoughLamps();"));
        Check.holds("the document's class is public and final", face.contains("public final class CoughLamps {"));
        Class<?> shown = CoughLamps.class;
        Check.holds("public and final", shown.getModifiers() == (Modifier.PUBLIC | Modifier.FINAL));
        Check.holds("without a package", shown.getPackageName().isEmpty());
        Check.holds("of no other class", shown.getSuperclass() == Object.class && shown.getInterfaces().length == 0);
        Constructor<?>[] made = shown.getDeclaredConstructors();
        Check.holds("one constructor, public, without parameters",
                made.length == 1 && Modifier.isPublic(made[0].getModifiers()) && made[0].getParameterCount() == 0);
    }

    private static String typesOf(Class<?>[] types) {
        StringBuilder text = new StringBuilder("(");
        for (int i = 0; i < types.length; i++) {
            text.append(i > 0 ? ", " : "").append(types[i].getName());
        }
        return text.append(")").toString();
    }

    private static void same(String what, Set<String> due, Set<String> shown) {
        Set<String> missing = new TreeSet<>(due);
        missing.removeAll(shown);
        Check.holds("no " + what + " are missing: " + missing, missing.isEmpty());
        Set<String> more = new TreeSet<>(shown);
        more.removeAll(due);
        Check.holds("no " + what + " are more than the document's: " + more, more.isEmpty());
    }
}
