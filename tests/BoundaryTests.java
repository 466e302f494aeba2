/**
 * For each sentence of the document that names a boundary case: calls at the boundary, one step inside and one
 * step outside it, and what later calls show. The tests stand in tests/boundaries, by the part of the document.
 */
public final class BoundaryTests {
    private BoundaryTests() {
    }

    public static void main(String[] args) {
        TermBounds.test();
        ActBounds.test();
        TextBounds.test();
        HistoryBounds.test();
        ToldBounds.test();
        WouldBeBounds.test();
        Bounds.allSentencesAreTested();
        Bounds.report();
    }
}
