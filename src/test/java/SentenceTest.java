import java.io.IOException;

/** Sentence by sentence: each one of ../shared/DOC.md that names a boundary has a test of its own, which tells its words. */
public final class SentenceTest {
    public static void main(String[] args) throws IOException {
        Doc.read();
        SentencesOfTerms.run();
        SentencesOfTexts.run();
        SentencesOfMany.run();
        SentencesOfAsks.run();
        SentencesOfChanges.run();
        Doc.complete();
        Check.end("SentenceTest");
    }
}
