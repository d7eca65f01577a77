import java.lang.reflect.Constructor;
import java.lang.reflect.Field;
import java.lang.reflect.Method;
import java.lang.reflect.Modifier;
import java.nio.file.Files;
import java.nio.file.Path;
import java.util.Arrays;
import java.util.HashSet;
import java.util.Set;
import java.util.TreeSet;
import java.util.regex.Matcher;
import java.util.regex.Pattern;

/** The class shows the document's face and nothing else, and keeps to the language's rules as far as words tell. */
public final class FaceTest {
    private static final String[] METHODS = {
        "int set(int, int)", "int lamp(int, int)", "int house(int)", "int walker(int, int)", "int goal(int, int, int)",
        "int mend(int, int)", "int cough(int)", "int ticks(int)", "int ofLamp(int, int)", "int ofWalker(int, int)",
        "int ofHouse(int, int)", "int lightAt(int)", "int hearers(int)", "int count(int)", "int homeIn(int)",
        "int brings(int, int)", "int bestReach(int)", "int needless()", "int put(long)", "int wipe()", "int fault()",
        "int carryOut()", "int undo()", "int save(int)", "int restore(int)"};
    private static final String[] CONSTANTS = {
        "NO_SUCH=-1", "BAD_VALUE=-2", "BAD_TEXT=-3", "TOO_MANY=-4", "NOT_POSSIBLE=-5", "NONE=-6",
        "EYES=0", "REACH=1", "AWAKE=2", "DIM=3", "WAIT=4", "CHAIN=5",
        "ASLEEP=0", "DIM_LIT=1", "LIT=2", "WELL=0", "BLIND=1", "BROKEN=2"};
    private static final String[] WORDS_RULED_OUT = {
        "throw", "throws", "try", "catch", "finally", "synchronized", "assert", "import", "package", "volatile",
        "System\\.out", "System\\.err", "equals", "hashCode", "toString", "->", "::", "protected", "float", "double",
        "Exact", "while \\(true\\)", "for \\(;;\\)"};

    public static void main(String[] args) throws Exception {
        face();
        classesInside(CoughLamps.class);
        if (args.length > 0) {
            words(Files.readString(Path.of(args[0])));
        }
        Check.finish();
    }

    private static void face() throws Exception {
        Class<?> face = CoughLamps.class;
        Check.holds("public and final", face.getModifiers() == (Modifier.PUBLIC | Modifier.FINAL));
        Check.holds("without a package", face.getPackageName().isEmpty());
        Set<String> methods = new TreeSet<>();
        Set<String> publicNames = new HashSet<>();
        Set<String> privateNames = new HashSet<>();
        for (Method method : face.getDeclaredMethods()) {
            if (Modifier.isPrivate(method.getModifiers()) || method.isSynthetic()) {
                privateNames.add(method.getName());
                continue;
            }
            publicNames.add(method.getName());
            Check.holds(method + " is public alone", method.getModifiers() == Modifier.PUBLIC);
            methods.add(method.getReturnType() + " " + method.getName() + typesOf(method.getParameterTypes()));
        }
        Check.holds("methods " + methods, methods.equals(new TreeSet<>(Arrays.asList(METHODS))));
        privateNames.retainAll(publicNames);
        Check.holds("private methods with public names " + privateNames, privateNames.isEmpty());
        Set<String> constants = new TreeSet<>();
        for (Field field : face.getDeclaredFields()) {
            if (!Modifier.isPrivate(field.getModifiers()) && !field.isSynthetic()) {
                constants.add(field.getName() + "=" + field.getInt(null));
                Check.holds(field + " is a constant",
                        field.getModifiers() == (Modifier.PUBLIC | Modifier.STATIC | Modifier.FINAL));
            }
        }
        Check.holds("constants " + constants, constants.equals(new TreeSet<>(Arrays.asList(CONSTANTS))));
        Constructor<?>[] made = face.getDeclaredConstructors();
        Check.holds("one constructor, public, without parameters",
                made.length == 1 && Modifier.isPublic(made[0].getModifiers()) && made[0].getParameterCount() == 0);
    }

    private static String typesOf(Class<?>[] types) {
        StringBuilder text = new StringBuilder("(");
        for (int i = 0; i < types.length; i++) {
            text.append(i > 0 ? ", " : "").append(types[i].getName());
        }
        return text.append(")").toString();
    }

    private static void classesInside(Class<?> outer) {
        Check.holds("some twelve classes", outer.getDeclaredClasses().length <= 11);
        for (Class<?> inner : outer.getDeclaredClasses()) {
            Check.holds(inner + " is static", Modifier.isStatic(inner.getModifiers()));
            Check.holds(inner + " is not shown", !Modifier.isPublic(inner.getModifiers()));
            int fields = 0;
            for (Field field : inner.getDeclaredFields()) {
                fields += Modifier.isStatic(field.getModifiers()) ? 0 : 1;
            }
            Check.holds(inner + " has some twenty fields", fields <= 20);
        }
    }

    private static void words(String program) {
        String code = program.replaceAll("(?s)/\\*.*?\\*/", " ").replaceAll("//[^\n]*", " ");
        for (String word : WORDS_RULED_OUT) {
            boolean plain = Character.isLetter(word.charAt(0)) && Character.isLetter(word.charAt(word.length() - 1));
            Matcher found = Pattern.compile(plain ? "\\b" + word + "\\b" : word).matcher(code);
            Check.holds("the class has no " + word, !found.find());
        }
    }
}
