import java.io.IOException;

/** Each sentence of the document, quoted, with a test of its own; none may be left without one. */
public final class SentencesTest {
    public static void main(String[] args) throws IOException {
        Doc doc = new Doc();
        Refusals refusals = new Refusals();
        new SentencesOfTerms(doc, refusals).all();
        new TermsOfTexts(doc).all();
        new TermsOfRows(doc).all();
        new TermsOfTime(doc).all();
        new TermsOfVoices(doc).all();
        new SentencesOfCalls(doc, refusals).all();
        new SentencesOfTexts(doc, refusals).all();
        new SentencesOfBack(doc, refusals).all();
        new SentencesOfSays(doc, refusals).all();
        new SentencesOfSeconds(doc, refusals).all();
        new SentencesOfBargains(doc, refusals).all();
        new SentencesOfVoices(doc, refusals).all();
        new SentencesOfSheets(doc, refusals).all();
        new SentencesOfTold(doc, refusals).all();
        doc.end();
        Due.end();
    }
}
