/** Each sentence of the document that names a case has a test of its own, which tells the sentence when it fails. */
public final class BoundariesTest {
    public static void main(String[] args) {
        TermsBoundaries.run();
        UndoBoundaries.run();
        BoardBoundaries.run();
        TextBoundaries.run();
        LookBoundaries.run();
        WouldBeBoundaries.run();
        Sentences.dueATestForEach();
        Check.end();
    }
}
