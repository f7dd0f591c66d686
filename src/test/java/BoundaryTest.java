/** Each sentence of DOC.md that names a boundary case has a test of its own; no sentence is left out. */
public final class BoundaryTest {
    public static void main(String[] args) {
        Check check = new Check();
        Document document = new Document();
        new TermBoundaries(check, document).all();
        new CommitBoundaries(check, document).all();
        new AskBoundaries(check, document).all();
        new ArrivalBoundaries(check, document).all();
        new RefusalBoundaries(check, document).all();
        new PromiseBoundaries(check, document).all();
        for (String piece : document.leftOut()) {
            check.standsFor(piece);
            check.same("a test for these words", "none", "one at least");
        }
        check.end();
    }
}
