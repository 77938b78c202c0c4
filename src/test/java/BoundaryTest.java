/** One test for each sentence of the document: the last input on each side of every boundary in it. */
public final class BoundaryTest {
    private BoundaryTest() {
    }

    public static void main(String[] arguments) {
        Document.open();
        TermBoundaries.test();
        TextBoundaries.test();
        ReckoningBoundaries.test();
        ModuloBoundaries.test();
        BitBoundaries.test();
        Document.everySentenceIsTested();
        Check.end("BoundaryTest");
    }
}
