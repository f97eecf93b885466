import java.io.IOException;

/** What it is, the terms and the promises, sentence by sentence, with the boundaries that each of them names. */
public final class SentencesTest {
    public static void main(String[] args) throws IOException {
        Check check = new Check("SentencesTest");
        Document document = new Document();
        Sentences[] parts = {new FirstSentence(check, document),
            new TermsSentences(check, document), new ReasonsSentences(check, document),
            new KeptSentences(check, document), new ThrowingSentences(check, document),
            new ChangeSentences(check, document), new LineSentences(check, document),
            new OrderSentences(check, document), new WordSentences(check, document)};
        for (Sentences part : parts) {
            part.run();
        }
        for (String rest : document.unquoted()) {
            check.is("no test for what the document says", rest, "");
        }
        check.finish();
    }
}
