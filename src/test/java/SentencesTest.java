/** Every sentence of the document has a test of its own. */
public final class SentencesTest {
    public static void main(String[] args) {
        SectionSentences.test();
        LayerSentences.test();
        PipeSentences.test();
        WaterSentences.test();
        TextSentences.test();
        DenialSentences.test();
        UndoSentences.test();
        Sentences.allTested();
        Check.end();
    }
}
