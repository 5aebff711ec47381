/**
 * The document again, sentence by sentence: for each one the cases at its edges, and
 * the calls that it refuses. No word of its promises and terms is left without a test.
 */
public final class BoundariesTest {
    private BoundariesTest() {
    }

    public static void main(String[] args) throws Exception {
        TermsBoundaries.all();
        KindBoundaries.all();
        SheetBoundaries.all();
        ThingBoundaries.all();
        SeriesBoundaries.all();
        CountedBoundaries.all();
        if (Sentences.end() != 0) {
            System.exit(1);
        }
    }
}
