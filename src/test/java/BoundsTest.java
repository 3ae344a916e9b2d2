import java.io.IOException;

/**
 * Sentence by sentence: each that names a boundary is quoted by a test of its own that looks at both sides of it. A
 * part of 'Terms' or of a promise that no test quotes fails, and so does a quote that the document does not have.
 */
public final class BoundsTest {
    public static void main(String[] args) throws IOException {
        Doc.open();
        LandBounds.all();
        CourtBounds.all();
        ToursBounds.all();
        GamesBounds.all();
        KindsBounds.all();
        RefusedBounds.all();
        Doc.allIsQuoted();
        Check.end();
    }
}
