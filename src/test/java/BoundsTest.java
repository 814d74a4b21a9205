import java.util.List;

/**
 * Each sentence of the document that names a bound: the last value that is taken and the first that
 * is not, what is empty and what is full, what comes round again, and what is refused.
 */
public final class BoundsTest extends Checks {
    private BoundsTest() {
    }

    public static void main(String[] args) {
        TermsBounds.all();
        TextBounds.all();
        List<String> left = Document.leftOver();
        for (String words : left) {
            System.out.println("not quoted: " + words);
        }
        System.exit(end());
    }
}
