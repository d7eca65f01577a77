import java.nio.charset.StandardCharsets;
import java.nio.file.Files;
import java.nio.file.Path;
import java.util.ArrayList;
import java.util.List;
import java.util.regex.Matcher;
import java.util.regex.Pattern;

/** The document's terms and promises, and which of their words a test has quoted. */
final class DocumentText {
    private static final int PROMISES = 26;
    // These name no boundary, or are headings without a mark.
    private static final String[] WITHOUT_A_TEST = {
        "Street, lamps, houses",
        "Ahead of the calls `set`, `lamp`, `house`, `walker`, `goal`, `mend`, `cough`, `ticks` the interface says: ---- setting up.",
        "Ahead of the calls `ofLamp`, `ofWalker`, `ofHouse`, `lightAt`, `hearers`, `count` the interface says: ---- what there is.",
        "Ahead of the calls `put`, `wipe`, `fault`, `carryOut` the interface says: ---- texts.",
        "Ahead of the calls `undo`, `save`, `restore` the interface says: ---- undo, saving."};
    private static final List<Integer> PROMISES_QUOTED = new ArrayList<>();
    private static final List<String> QUOTED = new ArrayList<>();

    private DocumentText() {
    }

    static void quote(int promise, String words) {
        PROMISES_QUOTED.add(promise);
        QUOTED.add(words);
    }

    /** Each quote stands in the terms or in its promise, and no sentence of them is left without a test. */
    static void compare(Path document) throws Exception {
        String text = Files.readString(document, StandardCharsets.UTF_8).replace("\r", "");
        String[] parts = new String[PROMISES + 1];
        boolean[][] tested = new boolean[PROMISES + 1][];
        for (int i = 0; i <= PROMISES; i++) {
            parts[i] = i == 0 ? part(text, "\n## Terms\n", false) : part(text, "\n## Promise " + i + ": ", true);
            tested[i] = new boolean[parts[i].length()];
        }
        for (int i = 0; i < QUOTED.size(); i++) {
            int promise = PROMISES_QUOTED.get(i);
            boolean found = mark(parts[promise], tested[promise], QUOTED.get(i));
            found |= mark(parts[0], tested[0], QUOTED.get(i));
            Check.holds("promise " + promise + " or the terms say: " + QUOTED.get(i), found);
        }
        for (String words : WITHOUT_A_TEST) {
            Check.holds("the terms say: " + words, mark(parts[0], tested[0], words));
        }
        for (int i = 0; i <= PROMISES; i++) {
            allTested(i == 0 ? "the terms" : "promise " + i, parts[i], tested[i]);
        }
    }

    /** The text under a heading, without headings, signatures and list marks. */
    private static String part(String text, String heading, boolean hasSignature) {
        int from = text.indexOf(heading);
        Check.holds("the document has a part" + heading.replace('\n', ' '), from >= 0);
        if (from < 0) {
            return "";
        }
        int to = text.indexOf("\n## ", from + heading.length());
        String part = text.substring(text.indexOf('\n', from + 1), to < 0 ? text.length() : to);
        part = part.replaceAll("(?m)^#.*$|^```.*$|^\\d\\. ", " ");
        if (hasSignature) {
            part = part.replaceFirst("(?m)^`[^`]*`:", " ");
        }
        return part.replaceAll("\\s+", " ");
    }

    private static boolean mark(String part, boolean[] tested, String words) {
        Matcher found = Pattern.compile(words, Pattern.LITERAL).matcher(part);
        boolean any = false;
        while (found.find()) {
            any = true;
            for (int i = found.start(); i < found.end(); i++) {
                tested[i] = true;
            }
        }
        return any;
    }

    private static void allTested(String name, String part, boolean[] tested) {
        StringBuilder left = new StringBuilder();
        for (int i = 0; i < tested.length; i++) {
            left.append(tested[i] ? '\n' : part.charAt(i));
        }
        for (String words : left.toString().split("\n+")) {
            Check.holds(name + " has a test for: " + words.trim(), !words.matches("(?s).*[A-Za-z0-9].*"));
        }
    }
}
