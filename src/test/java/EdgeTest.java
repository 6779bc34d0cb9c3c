/** The document's edges, sentence by sentence: too small, too large, empty, full, round, refused. */
public final class EdgeTest {
    public static void main(String[] args) throws java.io.IOException {
        Sentences.read();
        TextEdges.run();
        UnitEdges.run();
        CallEdges.run();
        WritingEdges.run();
        TableEdges.run();
        Sentences.allSections();
        if (args.length > 0) {
            Sentences.printRest();
        }
        Kit.finish();
    }
}
