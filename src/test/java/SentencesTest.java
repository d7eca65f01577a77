/** Runs the tests of the document's sentences, and looks whether one of its sentences has none. */
public final class SentencesTest {
    public static void main(String[] args) throws Exception {
        SentencesOfUse.all();
        SentencesOfSettingUp.all();
        SentencesOfTicks.all();
        SentencesOfLooks.all();
        SentencesOfWhatIf.all();
        SentencesOfTexts.all();
        SentencesOfHistory.all();
        DocumentText.compare();
        Check.finish();
    }
}
