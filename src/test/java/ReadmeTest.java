import java.lang.reflect.Method;
import java.nio.charset.StandardCharsets;
import java.nio.file.Files;
import java.nio.file.Path;
import java.util.regex.Matcher;
import java.util.regex.Pattern;

/** Makes the calls that README.md shows; each has to answer what is written behind it. */
public final class ReadmeTest {
    private static final Path README = Path.of("README.md");
    private static final Pattern BLOCK = Pattern.compile("(?s)\n```java\n(.*?)\n```\n");
    private static final Pattern CALL = Pattern.compile("street\\.(\\w+)\\(([^)]*)\\); +// (-?\\d+|[A-Z_]+)(?:[:,].*)?");

    private CoughLamps street;

    public static void main(String[] args) throws Exception {
        String text = Files.readString(README, StandardCharsets.UTF_8).replace("\r", "");
        ReadmeTest test = new ReadmeTest();
        int blocks = 0;
        for (Matcher block = BLOCK.matcher(text); block.find();) {
            blocks++;
            for (String line : block.group(1).split("\n")) {
                test.line(line);
            }
        }
        Check.holds("README.md shows how the class is used", blocks > 0);
        everyCallIsNamed(text);
        Check.finish();
    }

    private void line(String line) throws Exception {
        if (line.equals("CoughLamps street = new CoughLamps();")) {
            street = new CoughLamps();
            return;
        }
        Matcher call = CALL.matcher(line);
        boolean isCall = call.matches() && street != null;
        Check.holds("a new street, or a call with its answer: " + line, isCall);
        if (isCall) {
            Check.due("README.md: " + line, answer(call.group(1), call.group(2)), number(call.group(3)));
        }
    }

    private long answer(String name, String arguments) throws Exception {
        String[] written = arguments.isEmpty() ? new String[0] : arguments.split(", ");
        for (Method method : CoughLamps.class.getMethods()) {
            Class<?>[] types = method.getParameterTypes();
            if (!method.getName().equals(name) || types.length != written.length) {
                continue;
            }
            Object[] given = new Object[types.length];
            for (int i = 0; i < types.length; i++) {
                long number = number(written[i].replaceAll("L$", ""));
                given[i] = types[i] == long.class ? (Object) number : (Object) Math.toIntExact(number);
            }
            return (Integer) method.invoke(street, given);
        }
        Check.holds("there is a method " + name, false);
        return 0;
    }

    private static long number(String written) throws Exception {
        String name = written.replaceFirst("^CoughLamps\\.", "");
        return name.matches("[A-Z_]+") ? CoughLamps.class.getField(name).getInt(null) : Long.decode(name);
    }

    private static void everyCallIsNamed(String text) {
        for (Method method : CoughLamps.class.getDeclaredMethods()) {
            if (java.lang.reflect.Modifier.isPublic(method.getModifiers())) {
                Check.holds("README.md names " + method.getName() + "()", text.contains(method.getName() + "("));
            }
        }
    }
}
