/** The boundary cases of what an object tells: what is counted, what was sent, and what there is none of. */
final class AnswerBoundaries extends Boundaries {
    AnswerBoundaries(Sentences say) {
        super(say);
    }

    @Override
    void test() {
        all(
            this::nothingWaits, this::kindAtFirst, this::cameAndLost, this::lostToWhom, this::waitingAndSent,
            this::countsOfOneClass, this::sentOfNone, this::sentOfThirtyTwo, this::sentOfAnotherPlace,
            this::sentAfterAWrapAround, this::sentTellsWhat, this::sentTellsNoLostOnes, this::sentIsWhatItWas
        );
    }

    private void nothingWaits() {
        say.sentence(1, "As said, nothing waits.");
        LinkQueues x = new LinkQueues();
        for (int i = 0; i < 6; i++) {
            dueCounts("a new object", x, i, 0, 0, 0, 0, 0, 0, 0, 0, 0, 0);
            say.due("average(" + i + ")", x.average(i), 0.0);
            say.due("next(" + i + ")", x.next(i), -1.0);
        }
        dueRound("a new object", x);
        dueSent("a new object", x, 0, -1, -1, -1, -1, -1);
        say.due("no coin", coinsThatWaited(x), 0);
        say.due("none goes", x.tick(1000), 0);
        say.due("NONE", LinkQueues.NONE, -1);
    }

    private void kindAtFirst() {
        say.sentence(1, "a KIND: 0 PLAIN (at first), 1 MEAN, 2 DELAY.");
        for (int i = 0; i < 6; i++) {
            LinkQueues x = new LinkQueues();
            x.mean(i, 0.0, 0.5, 1.0, 1.0);
            x.delay(i, 1.0, 1.0);
            comeMany(x, i, 50, 101);
            say.due("class " + i + " does not look at packets", x.count(i, 6), 50);
            say.due("class " + i + " sends all", x.tick(60), 50);
        }
    }

    private void cameAndLost() {
        say.sentence(9, "Of a class: what = 0 PACKETS that came, 1 SENT, 2 LOST to a FULL buffer, 3 to the MEAN, 4 to the DELAY");
        LinkQueues x = new LinkQueues();
        x.link(100.0, 100);
        comeMany(x, 2, 3, 50);
        dueCounts("lost ones came too", x, 2, 3, 0, 1, 0, 0, 0, 2, 100);
        say.refused("come(2, 0, true)", ARGUMENT, () -> x.come(2, 0, true));
        say.due("a refused one did not", x.count(2, 0), 3);
        x.tick(1);
        dueCounts("sent ones came too", x, 2, 3, 2, 1, 0, 0, 0, 0, 0);
    }

    private void lostToWhom() {
        say.sentence(9, "2 LOST to a FULL buffer, 3 to the MEAN, 4 to the DELAY, 5 MARKED (each once), 6 that wait, 7 bytes that wait, 8 bytes SENT");
        LinkQueues x = exactMean(0.5, 3.0, 1.0);
        x.delay(0, 1.0, 1.0);
        tellCoins(x, 0.9, 0.0, 0.9);
        x.come(0, 101, false);
        x.come(0, 102, false);
        x.come(0, 103, true);
        // AVERAGE is 1.0 and 2.0: the second was not hit, the third was and is marked.
        x.come(0, 104, false);
        dueCounts("HIGH is 3.0", x, 0, 4, 0, 0, 1, 0, 1, 3, 306, 0, 0);
        x.kind(0, 2, 1500);
        x.come(0, 105, false);
        x.link(100.0, 412);
        x.come(0, 2, false);
        x.come(0, 1, false);
        dueCounts("one lost to the mean, one to a full buffer", x, 0, 7, 0, 1, 1, 0, 1, 5, 412, 0, 0);
        x.tick(2);
        dueCounts("one lost to the delay", x, 0, 7, 2, 1, 1, 1, 1, 2, 106, 204, 1296);
        x.tick(3);
        dueCounts("at the end", x, 0, 7, 3, 1, 1, 2, 1, 0, 0, 205, 0);
    }

    private void waitingAndSent() {
        say.sentence(9, "6 that wait, 7 bytes that wait, 8 bytes SENT");
        LinkQueues x = new LinkQueues();
        for (int k = 0; k < 100; k++) {
            x.come(1, 1500, false);
        }
        say.due("a full buffer", x.count(1, 6), 100);
        say.due("its bytes", x.count(1, 7), 150000);
        say.due("none sent", x.count(1, 8), 0);
        x.link(10000.0, 1000000);
        x.tick(15);
        say.due("none waits", x.count(1, 6), 0);
        say.due("no bytes", x.count(1, 7), 0);
        say.due("all sent", x.count(1, 8), 150000);
    }

    private void countsOfOneClass() {
        say.sentence(9, "Of a class");
        LinkQueues x = new LinkQueues();
        x.come(0, 200, false);
        x.come(5, 100, true);
        x.come(5, 300, true);
        x.tick(2);
        dueCounts("class 0", x, 0, 1, 1, 0, 0, 0, 0, 0, 0, 200, 0);
        dueCounts("class 5", x, 5, 2, 1, 0, 0, 0, 0, 1, 300, 100, 1400);
        dueCounts("class 3", x, 3, 0, 0, 0, 0, 0, 0, 0, 0, 0, 0);
    }

    private void sentOfNone() {
        say.sentence(13, "NONE if there is none such");
        LinkQueues x = new LinkQueues();
        x.come(0, 100, false);
        dueSent("it waits", x, 0, -1, -1, -1, -1, -1);
        x.tick(1);
        dueSent("it was sent", x, 0, 0, 0, 100, 1, 0);
        dueSent("there is no other", x, 1, -1, -1, -1, -1, -1);
        dueSent("nor a 32nd", x, 31, -1, -1, -1, -1, -1);
    }

    private void sentOfThirtyTwo() {
        say.sentence(13, "Of the k-th last PACKET that was SENT, from 0 on, 31 at most");
        LinkQueues x = new LinkQueues();
        x.link(10000.0, 1000000);
        comeMany(x, 0, 31, 10);
        x.tick(1);
        say.due("of 31 the first", x.sent(30, 0), 0);
        say.due("of 31 there is no 32nd", x.sent(31, 0), -1);
        comeMany(x, 0, 1, 10);
        x.tick(1);
        say.due("of 32 the first", x.sent(31, 0), 0);
        say.due("of 32 the last", x.sent(0, 0), 31);
        comeMany(x, 0, 1, 10);
        x.tick(1);
        say.due("of 33 the second", x.sent(31, 0), 1);
        say.due("the first is the 33rd last: it is not told", x.sent(32, 0), -1);
    }

    private void sentOfAnotherPlace() {
        say.sentence(13, "(also for another k)");
        LinkQueues x = new LinkQueues();
        x.link(10000.0, 1000000);
        comeMany(x, 0, 100, 1);
        x.tick(1);
        for (int k : new int[] {-1, 32, 33, 64, 99, -32, Integer.MIN_VALUE, Integer.MAX_VALUE}) {
            dueSent("a hundred were sent", x, k, -1, -1, -1, -1, -1);
        }
    }

    private void sentAfterAWrapAround() {
        say.sentence(13, "Of the k-th last PACKET that was SENT");
        LinkQueues x = new LinkQueues();
        x.link(10000.0, 1000000);
        for (int k = 0; k < 97; k++) {
            x.come(k % 6, 1 + k, false);
            x.tick(1);
        }
        for (int k = 0; k < 32; k++) {
            dueSent("three rounds of 32 and one", x, k, 96 - k, (96 - k) % 6, 97 - k, 1, 0);
        }
    }

    private void sentTellsWhat() {
        say.sentence(13, "what = 0 its number, 1 its class, 2 its bytes, 3 its WAIT, 4 whether it is MARKED (1 or 0)");
        LinkQueues x = exactMean(0.5, 1.5, 1.0);
        x.tick(10);
        x.come(5, 1500, true);
        x.come(0, 7, true);
        x.coin(0.0);
        x.come(0, 8, true);
        x.tick(20);
        dueSent("marked", x, 0, 2, 0, 8, 16, 1);
        dueSent("markable and not hit", x, 1, 1, 0, 7, 15, 0);
        dueSent("of another class", x, 2, 0, 5, 1500, 1, 0);
    }

    private void sentTellsNoLostOnes() {
        say.sentence(13, "PACKET that was SENT, from 0 on");
        LinkQueues x = new LinkQueues();
        x.kind(0, 2, 1500);
        x.delay(0, 1.0, 1.0);
        comeMany(x, 0, 4, 101);
        x.link(100.0, 404);
        x.come(0, 1, false);
        x.tick(3);
        dueNumbers("1 was lost to the delay, 4 to a full buffer", x, 3, 2, 0, -1);
    }

    private void sentIsWhatItWas() {
        say.sentence(13, "3 its WAIT");
        LinkQueues x = new LinkQueues();
        x.come(0, 10, false);
        x.tick(1);
        x.tick(1000);
        x.kind(0, 2, 1);
        dueSent("a thousand ticks later", x, 0, 0, 0, 10, 1, 0);
    }
}
