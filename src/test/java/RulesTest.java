import java.lang.reflect.Executable;
import java.lang.reflect.Field;
import java.lang.reflect.Method;
import java.lang.reflect.Modifier;
import java.nio.charset.StandardCharsets;
import java.nio.file.Files;
import java.nio.file.Path;
import java.util.ArrayList;
import java.util.HashSet;
import java.util.List;
import java.util.Set;
import java.util.regex.Matcher;
import java.util.regex.Pattern;

/** The class keeps to LANGUAGE.md, as far as its words and its members tell. */
public final class RulesTest {
    private static final String[] WORDS_RULED_OUT = {
        "throw", "throws", "try", "catch", "finally", "synchronized", "assert", "import", "package", "volatile", "native",
        "transient", "equals", "hashCode", "toString", "var", "yield", "protected", "float", "double", "Exact",
        "while \\(true\\)", "for \\(;;\\)", "->", "::", "@"};
    private static final Set<String> LIBRARY_USED = Set.of(
        "Integer.bitCount", "Math.abs", "Math.max", "Math.min", "System.arraycopy");
    private static final Set<Class<?>> CONSTANT_TYPES = Set.of(
        int.class, long.class, boolean.class, char.class, String.class, int[].class, long[].class, char[].class, byte[].class);
    private static final Pattern LIBRARY = Pattern.compile("\\b([A-Z][a-z]\\w*)\\.(\\w+)");
    private static final Pattern METHOD_START = Pattern.compile("^( {4}| {8})(?!if |for |while |switch )\\w[\\w<>\\[\\], ]*\\(.*\\) \\{$");
    private static final int MOST_CLASSES = 12;
    private static final int MOST_FIELDS = 20;
    private static final int MOST_PARAMETERS = 7;
    private static final int MOST_LINES = 60;

    public static void main(String[] args) throws Exception {
        List<Class<?>> classes = new ArrayList<>();
        addAll(classes, CoughLamps.class);
        Check.holds("some twelve classes (rule 11)", classes.size() <= MOST_CLASSES);
        for (Class<?> one : classes) {
            fields(one);
            methods(one);
        }
        classesInside(classes);
        privateNames();
        if (args.length > 0) {
            words(Files.readString(Path.of(args[0]), StandardCharsets.ISO_8859_1));
        }
        Check.finish();
    }

    private static void addAll(List<Class<?>> classes, Class<?> outer) {
        classes.add(outer);
        for (Class<?> inner : outer.getDeclaredClasses()) {
            addAll(classes, inner);
        }
    }

    private static void classesInside(List<Class<?>> classes) {
        for (Class<?> inner : classes.subList(1, classes.size())) {
            Check.holds(inner + " is static (rule 2)", Modifier.isStatic(inner.getModifiers()));
            Check.holds(inner + " is not shown (rule 1)",
                    !Modifier.isPublic(inner.getModifiers()) && !Modifier.isProtected(inner.getModifiers()));
        }
    }

    private static void fields(Class<?> one) {
        int own = 0;
        for (Field field : one.getDeclaredFields()) {
            if (Modifier.isStatic(field.getModifiers())) {
                Check.holds(field + " is final (rule 5)", Modifier.isFinal(field.getModifiers()));
                Check.holds(field + " is of a constant's type (rule 5)", CONSTANT_TYPES.contains(field.getType()));
            } else {
                own++;
            }
            Check.holds(field + " is of a type of rule 3", isAllowed(field.getType()));
        }
        Check.holds(one + " has some twenty fields (rule 11)", own <= MOST_FIELDS);
    }

    private static boolean isAllowed(Class<?> type) {
        Class<?> of = type.isArray() ? type.getComponentType() : type;
        of = of.isArray() && of.getComponentType().isPrimitive() ? of.getComponentType() : of;
        return of.isPrimitive() || of == String.class || of.getNestHost() == CoughLamps.class
                || type == StringBuilder.class || type == Integer.class || type == ArrayList.class || type == List.class;
    }

    private static void methods(Class<?> one) {
        List<Executable> all = new ArrayList<>(List.of(one.getDeclaredMethods()));
        all.addAll(List.of(one.getDeclaredConstructors()));
        for (Executable method : all) {
            Check.holds(method + " takes at most seven parameters (rule 11)", method.getParameterCount() <= MOST_PARAMETERS);
            Check.holds(method + " is not made by the compiler: no lambda, no bridge (rule 2)", !method.isSynthetic());
        }
    }

    private static void privateNames() {
        Set<String> publicNames = new HashSet<>();
        Set<String> privateNames = new HashSet<>();
        for (Method method : CoughLamps.class.getDeclaredMethods()) {
            (Modifier.isPrivate(method.getModifiers()) ? privateNames : publicNames).add(method.getName());
        }
        privateNames.retainAll(publicNames);
        Check.holds("no private method bears the name of a public one (rule 1): " + privateNames, privateNames.isEmpty());
    }

    private static void words(String program) {
        Check.holds("signs 1 to 127 alone (rule 4)", program.matches("[\\x01-\\x7f]*+"));
        String code = program.replaceAll("(?s)/\\*.*?\\*/", " ").replaceAll("//[^\n]*", " ");
        for (String word : WORDS_RULED_OUT) {
            boolean plain = Character.isLetter(word.charAt(0)) && Character.isLetter(word.charAt(word.length() - 1));
            Matcher found = Pattern.compile(plain ? "\\b" + word + "\\b" : word).matcher(code);
            Check.holds("no " + word + " (rules 2, 3, 4, 6, 9)", !found.find());
        }
        Matcher library = LIBRARY.matcher(code);
        while (library.find()) {
            Check.holds("of the library, " + library.group() + " is none that the class is known to need (rule 4)",
                    LIBRARY_USED.contains(library.group()));
        }
        lengths(program.split("\r?\n"));
    }

    private static void lengths(String[] lines) {
        int methods = 0;
        for (int i = 0; i < lines.length; i++) {
            Matcher start = METHOD_START.matcher(lines[i]);
            if (!start.find()) {
                continue;
            }
            methods++;
            int end = i;
            while (end < lines.length && !lines[end].equals(start.group(1) + "}")) {
                end++;
            }
            Check.holds("short (rule 11): " + lines[i].trim(), end - i + 1 <= MOST_LINES);
        }
        Check.holds("methods are found by their first lines", methods > 25);
    }
}
