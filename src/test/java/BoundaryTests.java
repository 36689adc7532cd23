/**
 * One test for each sentence of the document that names a boundary case; the tests are under
 * src/test/bounds. Fails, too, if the document names a boundary that no test is for.
 */
public final class BoundaryTests {
    public static void main(String[] args) {
        TextBounds.run();
        DoneBounds.run();
        CouldBounds.run();
        KindBounds.run();
        if (!Bounds.held()) System.exit(1);
    }
}
