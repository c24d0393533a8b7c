import java.io.IOException;

/** Boundary cases of the document, sentence by sentence. */
public final class BoundsTest {
    private BoundsTest() {
    }

    public static void main(String[] args) throws IOException {
        Due due = new Due("BoundsTest");
        Bounds bounds = new Bounds(due);
        EntriesBounds.all(bounds);
        ChainBounds.all(bounds);
        StateBounds.all(bounds);
        WritingBounds.all(bounds);
        BranchesBounds.all(bounds);
        ForgingBounds.all(bounds);
        SnapshotsBounds.all(bounds);
        TextBounds.all(bounds);
        LookingBounds.all(bounds);
        CouldBeBounds.all(bounds);
        System.out.println("BoundsTest: " + bounds.tests() + " sentences");
        due.end();
    }
}
