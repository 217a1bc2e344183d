/**
 * Each sentence of the document that names a boundary case, with its promise: too small, too large, empty, full,
 * a wrap-around, or a refused call.
 */
public final class BoundaryTest {
    public static void main(String[] args) {
        KeyBoundaries.run();
        AnswerBoundaries.run();
        LeaseBoundaries.run();
        MemoryBoundaries.run();
        FlashBoundaries.run();
        WriteBoundaries.run();
        CrashBoundaries.run();
        LookBoundaries.run();
        Check.everyPromiseHasItsSentences();
        Check.end("BoundaryTest");
    }
}
