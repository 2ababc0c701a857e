/** Each sentence of the document, those that name a boundary case above all, has a test of its own. */
public final class BoundaryTest {
    private BoundaryTest() {
    }

    public static void main(String[] args) {
        KeywordEdges.run();
        FoldingEdges.run();
        BucketEdges.run();
        StreamEdges.run();
        MatchEdges.run();
        SuperstringEdges.run();
        CoverEdges.run();
        RefusalEdges.run();
        Document.dueAllSaid();
        Check.finish("BoundaryTest");
    }
}
