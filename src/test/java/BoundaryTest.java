/**
 * Each sentence of the document that names a boundary case, with its own test. Doc finds sentences
 * without one.
 */
public final class BoundaryTest {
    private BoundaryTest() {
    }

    public static void main(String[] args) {
        WeekBoundaries.all();
        TextBoundaries.all();
        AnswerBoundaries.all();
        OperationBoundaries.all();
        Doc.end();
        Check.end();
    }
}
