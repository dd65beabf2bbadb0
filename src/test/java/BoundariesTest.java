/**
 * The boundary cases that the document names, each by the promise and the sentence: too small, too large, empty,
 * full, a wrap-around, a refused call.
 */
final class BoundariesTest {
    public static void main(String[] args) {
        Sentences say = new Sentences();
        Boundaries[] groups = {
            new RefusedBoundaries(say), new ComingBoundaries(say), new MeanBoundaries(say),
            new LinkBoundaries(say), new DelayBoundaries(say), new AnswerBoundaries(say),
        };
        for (Boundaries group : groups) {
            group.test();
        }
        say.end("Terms: COMING:", "Terms: GOING OUT:");
    }
}
