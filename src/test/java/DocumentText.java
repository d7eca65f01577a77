import java.nio.charset.StandardCharsets;
import java.nio.file.Files;
import java.nio.file.Path;
import java.util.ArrayList;
import java.util.List;
import java.util.regex.Matcher;
import java.util.regex.Pattern;

/** The document's words, and which of them a test has quoted: all but the face, which FaceTest compares. */
final class DocumentText {
    private static final Path DOCUMENT = Path.of("..", "shared", "DOC.md");
    private static final int PROMISES = 26;
    private static final String[] OUTSIDE_THE_PROMISES = {"What it is", "Terms", "Not promised"};
    // These name no boundary, leave something free, or are headings without a mark.
    private static final String[] WITHOUT_A_TEST = {
        "Lamps along a street at night that wake one another by coughs of light, for walkers who should not be in the dark: "
            + "lamps with eyes that see walkers, coughs that reach the lamps that are near enough, lamps that wait and cough "
            + "in their turn, lamps that are lit, then dim, then asleep, lamps that are blind or broken, sleepers in houses "
            + "who are disturbed, walkers with goals and pauses, light that is used and counted, dark ticks and the lamps to "
            + "blame for them, forecasts, the best reach of a cough, lamps that are not needed, orders that are read from "
            + "texts, undo, and saved states.",
        "what later calls answer is free.",
        "How the state is held inside the object is free, as are the speed of each call, the text of toString and the "
            + "behaviour of equals and hashCode. Use of one object from several threads at once is not promised to be safe. "
            + "Nothing is promised beyond the answers and state changes described above, and nothing about an object after "
            + "its 512th call.",
        "Street, lamps, houses",
        "Ahead of the calls `set`, `lamp`, `house`, `walker`, `goal`, `mend`, `cough`, `ticks` the interface says: ---- setting up.",
        "Ahead of the calls `ofLamp`, `ofWalker`, `ofHouse`, `lightAt`, `hearers`, `count` the interface says: ---- what there is.",
        "Ahead of the calls `put`, `wipe`, `fault`, `carryOut` the interface says: ---- texts.",
        "Ahead of the calls `undo`, `save`, `restore` the interface says: ---- undo, saving."};
    private static final List<Integer> PROMISES_QUOTED = new ArrayList<>();
    private static final List<String> QUOTED = new ArrayList<>();

    private DocumentText() {
    }

    static void quote(int promise, String words) {
        PROMISES_QUOTED.add(promise);
        QUOTED.add(words);
    }

    /** The lines of Java that the document shows as its public face. */
    static String face() throws Exception {
        String text = read();
        int from = text.indexOf("\n```java\n");
        int to = from < 0 ? -1 : text.indexOf("\n```\n", from + 1);
        Check.holds("the document shows the public face", to >= 0);
        return to < 0 ? "" : text.substring(from, to);
    }

    private static String read() throws Exception {
        return Files.readString(DOCUMENT, StandardCharsets.UTF_8).replace("\r", "");
    }

    /** Each quote stands in its promise or outside the promises, and no sentence is left without a test. */
    static void compare() throws Exception {
        String text = read();
        String[] parts = new String[PROMISES + 1];
        boolean[][] tested = new boolean[PROMISES + 1][];
        for (int i = 0; i <= PROMISES; i++) {
            parts[i] = i == 0 ? outsideThePromises(text) : part(text, "\n## Promise " + i + ": ", true);
            tested[i] = new boolean[parts[i].length()];
        }
        for (int i = 0; i < QUOTED.size(); i++) {
            int promise = PROMISES_QUOTED.get(i);
            boolean found = mark(parts[promise], tested[promise], QUOTED.get(i));
            found |= mark(parts[0], tested[0], QUOTED.get(i));
            Check.holds("promise " + promise + " or what stands outside the promises says: " + QUOTED.get(i), found);
        }
        for (String words : WITHOUT_A_TEST) {
            Check.holds("the document says: " + words, mark(parts[0], tested[0], words));
        }
        for (int i = 0; i <= PROMISES; i++) {
            allTested(i == 0 ? "what stands outside the promises" : "promise " + i, parts[i], tested[i]);
        }
    }

    private static String outsideThePromises(String text) {
        StringBuilder all = new StringBuilder();
        for (String heading : OUTSIDE_THE_PROMISES) {
            all.append(part(text, "\n## " + heading + "\n", false));
        }
        return all.toString();
    }

    /** The text under a heading, without headings, signatures and list marks. */
    private static String part(String text, String heading, boolean hasSignature) {
        int from = text.indexOf(heading);
        Check.holds("the document has a part" + heading.replace('\n', ' '), from >= 0);
        if (from < 0) {
            return "";
        }
        int to = text.indexOf("\n## ", from + heading.length());
        String part = text.substring(text.indexOf('\n', from + 1), to < 0 ? text.length() : to);
        part = part.replaceAll("(?m)^#.*$|^```.*$|^\\d\\. ", " ");
        if (hasSignature) {
            part = part.replaceFirst("(?m)^`[^`]*`:", " ");
        }
        return part.replaceAll("\\s+", " ");
    }

    private static boolean mark(String part, boolean[] tested, String words) {
        Matcher found = Pattern.compile(words, Pattern.LITERAL).matcher(part);
        boolean any = false;
        while (found.find()) {
            any = true;
            for (int i = found.start(); i < found.end(); i++) {
                tested[i] = true;
            }
        }
        return any;
    }

    private static void allTested(String name, String part, boolean[] tested) {
        StringBuilder left = new StringBuilder();
        for (int i = 0; i < tested.length; i++) {
            left.append(tested[i] ? '\n' : part.charAt(i));
        }
        for (String words : left.toString().split("\n+")) {
            Check.holds(name + " has a test for: " + words.trim(), !words.matches("(?s).*[A-Za-z0-9].*"));
        }
    }
}
