/**
 * Each sentence of the document that names a bound: the last value that is taken and the first that
 * is not, what is empty and what is full, what comes round again, and what is refused.
 */
public final class BoundsTest extends Checks {
    private BoundsTest() {
    }

    public static void main(String[] args) {
        OpeningBounds.all();
        TermsBounds.all();
        TextBounds.all();
        AnswerBounds.all();
        YearsBounds.all();
        PromiseBounds.all();
        for (String words : Document.leftOver()) {
            complain("the document says, and no test of bounds quotes: " + words);
        }
        System.exit(exitCode());
    }
}
