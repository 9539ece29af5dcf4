/** Each sentence of the document, quoted word by word, with the calls that show whether it holds. */
public final class SentencesTest {
    public static void main(String[] args) {
        TextSentences.all();
        SlabSentences.all();
        TimeSentences.all();
        WaySentences.all();
        BenchSentences.all();
        TellingSentences.all();
        AskingSentences.all();
        AgainSentences.all();
        Check.due("parts of the document", Doc.partCount(), 35);
        for (String left : Doc.unquoted()) {
            Check.say("not quoted by any test: " + left);
        }
        Check.end();
    }
}
