import java.nio.file.Files;
import java.nio.file.Path;

/** Runs the tests of the document's sentences, and looks whether one of its sentences has none. */
public final class SentencesTest {
    private static final Path DOCUMENT = Path.of("..", "shared", "DOC.md");

    public static void main(String[] args) throws Exception {
        SentencesOfSettingUp.all();
        SentencesOfTicks.all();
        SentencesOfLooks.all();
        SentencesOfWhatIf.all();
        SentencesOfTexts.all();
        SentencesOfHistory.all();
        if (Files.isReadable(DOCUMENT)) {
            DocumentText.compare(DOCUMENT);
        } else {
            System.out.println("no " + DOCUMENT + ": the quotes are not compared with it");
        }
        Check.finish();
    }
}
