/**
 * The document again, sentence by sentence: each test names its promise and the sentence that it holds the
 * class to, at the ends of the ranges, just outside of them and far outside, empty, full, and refused.
 */
public final class BoundaryTest {
    private BoundaryTest() {
    }

    public static void main(String[] args) {
        HeadBoundaries.all();
        StickBoundaries.all();
        MachineBoundaries.all();
        TextBoundaries.all();
        LookBoundaries.all();
        Sentences.allAreNamed();
        Check.end("BoundaryTest");
    }
}
