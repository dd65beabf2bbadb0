/** Checks that are told with the promise and the sentence of the document that they are about. */
final class Sentences {
    private final Checks checks = new Checks();
    private final Document document = new Document();
    private String about = "";
    private int checksOfIt = 1;

    /** What is checked from now on is about these words, as this promise needs them. */
    void sentence(int promise, String words) {
        endSentence();
        about = "promise " + promise + ", \"" + words + "\": ";
        checksOfIt = 0;
        if (!document.says(promise, words)) {
            checks.isTrue(about + "the document says so", false);
        }
    }

    /** Where a call of the test throws that should not, that is told, and the tests behind it are still run. */
    void run(Runnable test) {
        try {
            test.run();
        } catch (RuntimeException e) {
            checks.isTrue(about + "no other call throws, as one did: " + e, false);
        }
    }

    void due(String what, long got, long want) {
        checksOfIt++;
        checks.due(about + what, got, want);
    }

    void due(String what, double got, double want) {
        checksOfIt++;
        checks.due(about + what, got, want);
    }

    void due(String what, String got, String want) {
        checksOfIt++;
        checks.due(about + what, got, want);
    }

    void isTrue(String what, boolean holds) {
        checksOfIt++;
        checks.isTrue(about + what, holds);
    }

    void refused(String what, Class<? extends RuntimeException> want, Runnable call) {
        checksOfIt++;
        checks.refused(about + what, want, call);
    }

    /** The call must throw nothing. */
    void taken(String what, Runnable call) {
        checksOfIt++;
        checks.taken(about + what, call);
    }

    /** Ends the test; but for these words, every sentence of the document must have been named. */
    void end(String... unnamed) {
        endSentence();
        checks.due("the words of the document that no test names", String.join("\n", document.leftOver()), String.join("\n", unnamed));
        checks.end();
    }

    private void endSentence() {
        if (checksOfIt == 0) {
            checks.isTrue(about + "it is checked", false);
        }
    }
}
