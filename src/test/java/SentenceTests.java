import java.nio.file.Path;

/** Each sentence of the document that names a boundary case, and all others, have a test of their own. */
public final class SentenceTests extends Sentences {
    public static void main(String[] args) throws Exception {
        TermSentences.run();
        RowSentences.run();
        ChangeSentences.run();
        LookSentences.run();
        TextSentences.run();
        HistorySentences.run();
        everySentenceHasATest(Path.of(args.length > 1 ? args[1] : "../shared/DOC.md"));
        end("sentences");
    }
}
