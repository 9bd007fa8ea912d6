/** Each sentence of ../shared/DOC.md that names a boundary case has a test here that says it. */
public final class BoundaryTests {
    public static void main(String[] args) throws Exception {
        TextBounds.run();
        WayBounds.run();
        ChangeBounds.run();
        CallBounds.run();
        if (Sentences.ended() != 0) {
            System.exit(1);
        }
    }
}
