import java.nio.file.Path;

/** A test for each sentence of the document, in its order, from its first line to its last. */
public final class DocumentTest {
    public static void main(String[] args) {
        Walk walk = new Walk(Path.of("../shared/DOC.md"));
        FaceSentences.all(walk);
        BoardSentences.all(walk);
        WaySentences.all(walk);
        FightSentences.all(walk);
        RecordSentences.all(walk);
        ActSentences.all(walk);
        OrderSentences.all(walk);
        ToldSentences.all(walk);
        walk.end();
    }
}
