/** The sentences of the document that name boundary cases, each with a test of its own. */
public final class BoundaryTest {
    public static void main(String[] args) {
        Due due = new Due("BoundaryTest");
        new IntroBoundaries(due).test();
        new TermsBoundaries(due).test();
        new ErrorBoundaries(due).test();
        new WriterBoundaries(due).test();
        new ViewBoundaries(due).test();
        new TellBoundaries(due).test();
        new ForesightBoundaries(due).test();
        new TextBoundaries(due).test();
        due.start("sentences without a test");
        for (String clause : Document.unquoted()) {
            due.is(clause, 0, 1);
        }
        due.end();
    }
}
