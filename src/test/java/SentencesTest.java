import java.io.IOException;
import java.nio.file.Path;

/**
 * A test for each sentence of ../shared/DOC.md, under the sentence's own words: also the sentences must be the
 * document's, and none of its sentences may be without a test.
 */
public final class SentencesTest {
    public static void main(String[] args) throws IOException {
        Check check = new Check();
        Sentences s = new Sentences(check, Document.sentences(Path.of("../shared/DOC.md")));
        new RoomSentences(s).test();
        new TableSentences(s).test();
        new StepSentences(s).test();
        new CommandSentences(s).test();
        new SearchSentences(s).test();
        new RecordSentences(s).test();
        new ExceptionSentences(s).test();
        s.allAreTested();
        check.end("SentencesTest");
    }
}
