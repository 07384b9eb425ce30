import java.io.IOException;

/** For each sentence of the document that names a boundary case a test of its own; and none is left without. */
public final class BoundsTest {
    public static void main(String[] args) throws IOException {
        Sentences sentences = new Sentences();
        new BoundsOfTexts(sentences).run();
        new BoundsOfSteps(sentences).run();
        new BoundsOfAsking(sentences).run();
        new BoundsOfTelling(sentences).run();
        new BoundsOfWhatIs(sentences).run();
        new BoundsOfWhatWouldBe(sentences).run();
        sentences.noneIsLeft();
        Checks.end("BoundsTest");
    }
}
