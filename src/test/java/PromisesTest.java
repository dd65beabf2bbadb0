/** The promises of the document one by one, with answers worked out by hand. */
final class PromisesTest {
    private static final Class<? extends RuntimeException> ARGUMENT = IllegalArgumentException.class;
    private static final Class<? extends RuntimeException> STATE = IllegalStateException.class;

    private final Checks checks = new Checks();

    public static void main(String[] args) {
        PromisesTest test = new PromisesTest();
        test.newObject();
        test.kindSetsTheQuantum();
        test.kindKeepsWhatWasToldAndThePackets();
        test.kindForgetsWhatTheDelayHad();
        test.kindRefuses();
        test.meanByItsFirstNumbers();
        test.meanBetweenLowAndHigh();
        test.meanCountsSinceTheLastHit();
        test.meanRefusesEvenMarkable();
        test.meanOfAnEmptyQueue();
        test.meanRefusesArguments();
        test.delayLosesFasterAndFaster();
        test.delayGoesOnWhereItWas();
        test.delayGoesOnForSixteenIntervals();
        test.delayByItsFirstNumbers();
        test.delayNeedsLateness();
        test.delayMarksOnlyOnce();
        test.delayLeavesTheDeficit();
        test.delayRefuses();
        test.linkRates();
        test.linkLimits();
        test.linkRefuses();
        test.coinsAreUsedInOrder();
        test.coinRefuses();
        test.comeNumbers();
        test.comeFindsNoRoom();
        test.comeRefuses();
        test.tickSends();
        test.tickRefuses();
        test.counts();
        test.averageAndNextRefuse();
        test.freeFollowsTheClock();
        test.sentTellsThirtyTwo();
        test.roundTurns();
        test.turnsNeedDeficits();
        test.clockTicks();
        test.checks.end();
    }

    private static void comeMany(LinkQueues x, int i, int many, int bytes) {
        for (int k = 0; k < many; k++) {
            x.come(i, bytes, false);
        }
    }

    private void dueCounts(String when, LinkQueues x, int i, int... want) {
        for (int what = 0; what < want.length; what++) {
            checks.due(when + ": count(" + i + ", " + what + ")", x.count(i, what), want[what]);
        }
    }

    private void dueSent(String when, LinkQueues x, int k, int... want) {
        for (int what = 0; what < want.length; what++) {
            checks.due(when + ": sent(" + k + ", " + what + ")", x.sent(k, what), want[what]);
        }
    }

    private void dueNumbers(String when, LinkQueues x, int... newestFirst) {
        for (int k = 0; k < newestFirst.length; k++) {
            checks.due(when + ": sent(" + k + ", 0)", x.sent(k, 0), newestFirst[k]);
        }
    }

    /** A class 0 of the kind MEAN whose average is just how many packets are in its queue. */
    private static LinkQueues exactMean(double low, double high, double top) {
        LinkQueues x = new LinkQueues();
        x.kind(0, 1, 1500);
        x.mean(0, low, high, top, 1.0);
        return x;
    }

    // Promise 1

    private void newObject() {
        LinkQueues x = new LinkQueues();
        checks.due("NONE", LinkQueues.NONE, -1);
        checks.due("new: clock()", x.clock(), 0);
        checks.due("new: free()", x.free(), 0.0);
        checks.due("new: round(0)", x.round(0), -1);
        for (int i = 0; i < 6; i++) {
            dueCounts("new", x, i, 0, 0, 0, 0, 0, 0, 0, 0, 0, 0);
            checks.due("new: average", x.average(i), 0.0);
            checks.due("new: next", x.next(i), -1.0);
        }
        dueSent("new", x, 0, -1, -1, -1, -1, -1);
        checks.due("new: no coin waits before the first", x.coin(0.5), 1);
        checks.due("new: the first number", x.come(5, 1500, false), 0);
        checks.due("new: the first quantum is enough for 1500 bytes", x.tick(1), 1);
        checks.due("new: the first rate is 100.0", x.free(), 15.0);
    }

    // Promise 2

    private void kindSetsTheQuantum() {
        LinkQueues x = new LinkQueues();
        x.kind(3, 0, 3000);
        comeMany(x, 3, 3, 1000);
        x.tick(1);
        checks.due("quantum 3000", x.count(3, 9), 2000);
        x.kind(3, 2, 1);
        checks.due("a deficit stays when the kind changes", x.count(3, 9), 2000);
        checks.due("a place in the round stays when the kind changes", x.round(0), 3);
        checks.due("packets stay when the kind changes", x.count(3, 6), 2);
        x.tick(10);
        checks.due("a turn goes on when the kind changes", x.count(3, 9), 1000);

        LinkQueues y = new LinkQueues();
        y.kind(0, 0, 1);
        y.come(0, 2, false);
        y.come(1, 10, false);
        y.come(1, 10, false);
        y.tick(1);
        dueNumbers("a class with quantum 1 waits for its second turn", y, 0, 2, 1);
    }

    private void kindKeepsWhatWasToldAndThePackets() {
        LinkQueues x = new LinkQueues();
        x.mean(0, 0.5, 1.5, 1.0, 1.0);
        x.delay(0, 1.0, 1.0);
        x.coin(0.4);
        x.kind(0, 1, 1500);
        x.come(0, 100, false);
        checks.due("a coin of 0.4 is below 0.5", x.come(0, 100, true), 1);
        dueCounts("marked by the mean", x, 0, 2, 0, 0, 0, 0, 1, 2, 200, 0, 0);
        checks.due("average of one packet", x.average(0), 1.0);
        x.kind(0, 1, 1500);
        dueCounts("packets stay", x, 0, 2, 0, 0, 0, 0, 1, 2, 200, 0, 0);
        checks.due("average after kind", x.average(0), 0.0);
        x.mean(0, 0.5, 3.0, 1.0, 1.0);
        // COUNT is -1 again, hence 0 now: p is 0.6 and d is 1.0.
        checks.due("coins waiting before", x.coin(0.7), 1);
        checks.due("with COUNT 0 a coin of 0.7 is not below 0.6", x.come(0, 100, false), 2);
        checks.due("that coin was used", x.coin(0.4), 1);
        x.kind(0, 1, 1500);
        x.mean(0, 0.0, 5.0, 1.0, 1.0);
        checks.due("with COUNT 0 a coin of 0.4 is below 3.0 / 5.0", x.come(0, 100, false), -1);

        LinkQueues y = new LinkQueues();
        y.kind(0, 1, 1500);
        y.coin(0.25);
        y.kind(0, 1, 1500);
        checks.due("coins are no class's: they stay", y.coin(0.25), 2);
    }

    private void kindForgetsWhatTheDelayHad() {
        LinkQueues x = new LinkQueues();
        x.kind(0, 2, 1500);
        x.delay(0, 2.0, 3.0);
        comeMany(x, 0, 40, 100);
        x.tick(8);
        checks.due("it drops", x.next(0), 8.0 + 3.0 / Model.root(2));
        x.kind(0, 2, 1500);
        checks.due("it drops no more", x.next(0), -1.0);
        x.tick(3);
        checks.due("ABOVE was none: at 9 it became 12", x.next(0), -1.0);
        x.tick(1);
        checks.due("COUNT and LAST were 0 again", x.next(0), 15.0);
        x.kind(0, 0, 1500);
        checks.due("a plain class has no NEXT", x.next(0), -1.0);
        checks.due("the lost stay counted", x.count(0, 4), 3);
        x.tick(20);
        checks.due("a plain class loses none", x.count(0, 4), 3);
    }

    private void kindRefuses() {
        LinkQueues x = new LinkQueues();
        checks.refused("kind(-1, 0, 1)", ARGUMENT, () -> x.kind(-1, 0, 1));
        checks.refused("kind(6, 0, 1)", ARGUMENT, () -> x.kind(6, 0, 1));
        checks.refused("kind(0, -1, 1)", ARGUMENT, () -> x.kind(0, -1, 1));
        checks.refused("kind(0, 3, 1)", ARGUMENT, () -> x.kind(0, 3, 1));
        checks.refused("kind(0, 0, 0)", ARGUMENT, () -> x.kind(0, 0, 0));
        checks.refused("kind(0, 0, 3001)", ARGUMENT, () -> x.kind(0, 0, 3001));
        x.kind(0, 0, 1);
        x.kind(5, 2, 3000);
    }

    // Promise 3

    private void meanByItsFirstNumbers() {
        LinkQueues x = new LinkQueues();
        x.kind(2, 1, 1500);
        x.coin(0.0);
        comeMany(x, 2, 4, 10);
        checks.due("WEIGHT 0.25", x.average(2), 0.25 * 1 + 0.25 * (2 - 0.25) + 0.25 * (3 - 0.6875));
        comeMany(x, 2, 4, 10);
        checks.due("below LOW 5.0", x.average(2), 4.40045166015625);
        checks.due("no coin is used there", x.coin(0.05), 2);
        checks.due("above LOW a coin of 0.0 hits", x.come(2, 10, false), -1);
        checks.due("it was used", x.coin(0.05), 2);
        // With COUNT 1 and then 2, p / d is about 0.01 and 0.02.
        checks.due("TOP 0.1: coin 0.05 does not hit", x.come(2, 10, false), 9);
        checks.due("TOP 0.1: coin 0.05 does not hit again", x.come(2, 10, false), 10);
        double average = x.average(2);
        for (int n = 10; n < 30; n++) {
            average = average + 0.25 * (n - average);
            checks.due("HIGH 15.0, average " + average, x.come(2, 10, true) == -1 ? 1 : 0, average >= 15.0 ? 1 : 0);
            if (average >= 15.0) {
                break;
            }
        }
        checks.due("HIGH was reached", x.count(2, 3), 2);
    }

    private void meanBetweenLowAndHigh() {
        LinkQueues x = exactMean(0.5, 1.5, 1.0);
        checks.due("below LOW it stays", x.come(0, 10, false), 0);
        checks.due("without a coin it is 0.5, not below 0.5", x.come(0, 10, false), 1);
        checks.due("average", x.average(0), 1.0);
        x.mean(0, 1.0, 2.5, 1.0, 1.0);
        // COUNT is 1, p is 1.0 / 1.5: d is below p.
        checks.due("without a coin 0.5 is below p / d", x.come(0, 10, false), -1);
        LinkQueues quarter = exactMean(0.0, 4.0, 1.0);
        quarter.come(0, 10, false);
        checks.due("without a coin 0.5 is not below 0.25 / 0.75", quarter.come(0, 10, false), 1);
        LinkQueues most = exactMean(0.0, 1.25, 1.0);
        most.kind(0, 0, 1500);
        most.come(0, 10, false);
        most.kind(0, 1, 1500);
        checks.due("without a coin 0.5 is below 0.8", most.come(0, 10, false), -1);

        LinkQueues y = exactMean(0.5, 1.5, 1.0);
        y.come(0, 10, false);
        y.coin(0.49);
        checks.due("a coin of 0.49 is below 0.5", y.come(0, 10, false), -1);
        dueCounts("lost to the mean", y, 0, 2, 0, 0, 1, 0, 0, 1, 10, 0, 0);

        LinkQueues z = exactMean(0.5, 1.5, 1.0);
        z.come(0, 10, false);
        z.coin(0.49);
        checks.due("hit and markable it stays", z.come(0, 10, true), 1);
        dueCounts("marked by the mean", z, 0, 2, 0, 0, 0, 0, 1, 2, 20, 0, 0);
        z.tick(1);
        dueSent("marked by the mean", z, 0, 1, 0, 10, 1, 1);
        dueSent("not marked", z, 1, 0, 0, 10, 1, 0);

        LinkQueues atLow = exactMean(1.0, 2.0, 1.0);
        atLow.come(0, 10, false);
        atLow.coin(0.0);
        checks.due("at LOW p is 0.0: no coin is below it", atLow.come(0, 10, false), 1);
        checks.due("at LOW a coin is used", atLow.coin(0.0), 1);
    }

    private void meanCountsSinceTheLastHit() {
        LinkQueues x = exactMean(0.0, 8.0, 0.5);
        for (int k = 0; k < 4; k++) {
            x.coin(0.9);
        }
        checks.due("five coins", x.coin(0.0), 5);
        comeMany(x, 0, 5, 10);
        // With 1, 2, 3, 4 in the queue COUNT * p is 1/16, 4/16, 9/16, 16/16.
        dueCounts("d of 0.0 hits", x, 0, 5, 0, 0, 1, 0, 0, 4);
        checks.due("d of 0.0 uses no coin", x.coin(0.34), 2);
        // COUNT is 0 after the hit, 1 now: p is 0.25, d is 0.75.
        checks.due("a coin below p / d hits", x.come(0, 10, false), -1);
        checks.due("a coin above p / d does not", x.come(0, 10, false), 6);
        checks.due("both were used", x.coin(0.9), 1);
        // COUNT 2, five in the queue: p is 5/16, p / d is 5/6.
        checks.due("0.9 is not below 5/6", x.come(0, 10, false), 7);
        x.coin(0.99);
        // COUNT 3, six in the queue: d is 1.0 - 18/16.
        checks.due("d below 0.0 hits", x.come(0, 10, true), 8);
        checks.due("d below 0.0 marks", x.count(0, 5), 1);
        checks.due("and uses no coin", x.coin(0.5), 2);

        LinkQueues y = exactMean(0.0, 4.0, 1.0);
        y.come(0, 10, false);
        y.mean(0, 2.0, 4.0, 1.0, 1.0);
        y.come(0, 10, false);
        y.mean(0, 1.0, 3.0, 1.0, 1.0);
        y.coin(0.6);
        // Below LOW COUNT became -1, so it is 0 now, p is 0.5 and d is 1.0.
        checks.due("below LOW COUNT is -1", y.come(0, 10, false), 2);
    }

    private void meanRefusesEvenMarkable() {
        LinkQueues x = exactMean(0.5, 1.0, 1.0);
        x.come(0, 10, false);
        x.coin(0.9);
        checks.due("at HIGH a markable one goes", x.come(0, 10, true), -1);
        dueCounts("at HIGH it is not marked", x, 0, 2, 0, 0, 1, 0, 0, 1);
        x.mean(0, 0.5, 1.5, 1.0, 1.0);
        // COUNT became 0 at HIGH, is 1 now: p is 0.5, d is 0.5, and every coin is below 1.0.
        checks.due("COUNT was 0 after HIGH, and no coin was used there", x.come(0, 10, false), -1);
        checks.due("the coin is used", x.coin(0.5), 1);
    }

    private void meanOfAnEmptyQueue() {
        LinkQueues x = new LinkQueues();
        x.kind(0, 1, 1500);
        x.mean(0, 500.0, 1000.0, 1.0, 0.5);
        comeMany(x, 0, 3, 100);
        checks.due("average of 0, 1, 2", x.average(0), 1.25);
        x.tick(2);
        checks.due("empty since 2", x.count(0, 6), 0);
        checks.due("an average waits for the next packet", x.average(0), 1.25);
        x.tick(3);
        x.come(0, 100, false);
        checks.due("three ticks empty", x.average(0), 0.15625);
        x.come(0, 100, false);
        checks.due("not empty", x.average(0), 0.578125);
        x.tick(200);
        x.mean(0, 500.0, 1000.0, 1.0, 0.01);
        x.come(0, 100, false);
        double decayed = 0.578125;
        for (int tick = 0; tick < 100; tick++) {
            decayed = decayed * (1.0 - 0.01);
        }
        checks.due("a hundred ticks at most", x.average(0), decayed);

        LinkQueues y = new LinkQueues();
        y.kind(0, 1, 1500);
        y.mean(0, 0.0, 1.0, 1.0, 1.0);
        comeMany(y, 0, 2, 100);
        y.tick(2);
        y.mean(0, 0.0, 0.25, 1.0, 0.5);
        y.tick(1);
        checks.due("let go with an empty queue", y.come(0, 100, false), -1);
        checks.due("two ticks empty", y.average(0), 0.25);
        checks.due("empty since now: no tick", y.come(0, 100, false), -1);
        checks.due("still", y.average(0), 0.25);
        y.tick(1);
        y.come(0, 100, false);
        checks.due("one tick more", y.average(0), 0.125);
    }

    private void meanRefusesArguments() {
        LinkQueues x = new LinkQueues();
        double none = Double.NaN;
        double[][] wrong = {
            {-0.001, 1.0, 1.0, 1.0}, {1.0, 1.0, 1.0, 1.0}, {2.0, 1.0, 1.0, 1.0}, {0.0, 1000.001, 1.0, 1.0},
            {0.0, 1.0, 0.0, 1.0}, {0.0, 1.0, 1.001, 1.0}, {0.0, 1.0, 1.0, 0.0}, {0.0, 1.0, 1.0, 1.001},
            {none, 1.0, 1.0, 1.0}, {0.0, none, 1.0, 1.0}, {0.0, 1.0, none, 1.0}, {0.0, 1.0, 1.0, none},
            {0.0, Double.POSITIVE_INFINITY, 1.0, 1.0}, {Double.NEGATIVE_INFINITY, 1.0, 1.0, 1.0},
            {0.0, 1.0, -0.5, 1.0}, {0.0, 1.0, 1.0, -0.5},
        };
        for (double[] w : wrong) {
            String call = "mean(0, " + w[0] + ", " + w[1] + ", " + w[2] + ", " + w[3] + ")";
            checks.refused(call, ARGUMENT, () -> x.mean(0, w[0], w[1], w[2], w[3]));
        }
        checks.refused("mean(-1, ..)", ARGUMENT, () -> x.mean(-1, 0.0, 1.0, 1.0, 1.0));
        checks.refused("mean(6, ..)", ARGUMENT, () -> x.mean(6, 0.0, 1.0, 1.0, 1.0));
        x.mean(0, 0.0, 1000.0, 1.0, 1.0);
        x.mean(5, 0.0, Double.MIN_VALUE, Double.MIN_VALUE, Double.MIN_VALUE);
    }

    // Promise 4

    /** One packet of 100 bytes goes a tick, two at the first; it drops from 5 on and lost five by 14. */
    private static LinkQueues dropping() {
        LinkQueues x = new LinkQueues();
        x.kind(0, 2, 1500);
        x.delay(0, 2.0, 3.0);
        comeMany(x, 0, 20, 100);
        return x;
    }

    private void delayLosesFasterAndFaster() {
        LinkQueues x = dropping();
        x.tick(4);
        checks.due("at 4 it does not drop", x.next(0), -1.0);
        dueNumbers("until 4", x, 4, 3, 2, 1, 0, -1);
        double next = 8.0;
        x.tick(1);
        checks.due("at 5 ABOVE is reached", x.next(0), next);
        dueNumbers("at 5", x, 6, 4);
        x.tick(2);
        dueNumbers("until 7", x, 8, 7, 6);
        x.tick(1);
        next = next + 3.0 / Model.root(2);
        checks.due("at 8", x.next(0), next);
        dueNumbers("at 8", x, 10, 8);
        x.tick(3);
        next = next + 3.0 / Model.root(3);
        checks.due("at 11", x.next(0), next);
        x.tick(1);
        next = next + 3.0 / Model.root(4);
        checks.due("at 12", x.next(0), next);
        dueNumbers("at 12", x, 16, 14, 12, 11, 10);
        x.tick(1);
        checks.due("at 13 it still drops", x.next(0), next);
        x.tick(1);
        checks.due("behind the last packet it drops no more", x.next(0), -1.0);
        dueNumbers("at 14", x, 19, 17, 16);
        dueCounts("at 14", x, 0, 20, 15, 0, 0, 5, 0, 0, 0, 1500, 0);
    }

    private void delayGoesOnWhereItWas() {
        LinkQueues x = dropping();
        x.tick(14);
        comeMany(x, 0, 20, 100);
        x.tick(4);
        checks.due("at 18 it does not drop", x.next(0), -1.0);
        x.tick(1);
        checks.due("at 19 COUNT is 5 - 1", x.next(0), 19.0 + 3.0 / Model.root(4));
        checks.due("ROOT(4)", Model.root(4), 2.0);

        LinkQueues late = dropping();
        late.tick(62);
        comeMany(late, 0, 20, 100);
        late.tick(4);
        // NEXT was about 14.7; 66 less that is above 16.0 * 3.0.
        checks.due("at 66 it does not drop", late.next(0), -1.0);
        late.tick(1);
        checks.due("after a long time COUNT is 1", late.next(0), 70.0);

        LinkQueues two = new LinkQueues();
        two.kind(0, 2, 1500);
        two.delay(0, 2.0, 3.0);
        comeMany(two, 0, 15, 100);
        two.tick(11);
        checks.due("three were lost", two.count(0, 4), 3);
        comeMany(two, 0, 20, 100);
        two.tick(5);
        checks.due("COUNT is 3 - 1", two.next(0), 16.0 + 3.0 / Model.root(2));
    }

    private void delayGoesOnForSixteenIntervals() {
        double next = 8.0;
        for (int count = 2; count <= 5; count++) {
            next = next + 3.0 / Model.root(count);
        }
        double sixteenth = (19.0 - next) / 16.0;
        LinkQueues x = droppingAgain(sixteenth);
        checks.due("not below 16.0 * INTERVAL: COUNT is 1", x.next(0), 19.0 + sixteenth);
        double more = Math.nextUp(sixteenth);
        LinkQueues y = droppingAgain(more);
        checks.due("below 16.0 * INTERVAL: COUNT is 4", y.next(0), 19.0 + more / 2.0);
    }

    private static LinkQueues droppingAgain(double interval) {
        LinkQueues x = dropping();
        x.tick(14);
        comeMany(x, 0, 20, 100);
        x.tick(4);
        x.delay(0, 0.125, interval);
        x.tick(1);
        return x;
    }

    private void delayByItsFirstNumbers() {
        LinkQueues x = new LinkQueues();
        x.kind(1, 2, 1500);
        x.link(1.0, 1000000);
        comeMany(x, 1, 60, 4);
        // One goes every four ticks: at 1, 4, 8, ..; the WAIT of 8 is the first that is not below 5.0.
        x.tick(107);
        checks.due("at 104 it is not above 8 + 100.0", x.count(1, 4), 0);
        x.tick(1);
        checks.due("at 108 it is", x.count(1, 4), 1);
        checks.due("INTERVAL 100.0", x.next(1), 208.0);

        LinkQueues y = new LinkQueues();
        y.kind(1, 2, 1500);
        y.link(1.0, 1000000);
        comeMany(y, 1, 90, 5);
        // One goes every five ticks: at 1, 5, 10, ..; a WAIT of 5 is not below 5.0.
        y.tick(104);
        checks.due("at 104 it is not above 5 + 100.0", y.count(1, 4), 0);
        y.tick(1);
        checks.due("TARGET 5.0", y.count(1, 4), 1);
    }

    private void delayNeedsLateness() {
        LinkQueues x = new LinkQueues();
        x.kind(0, 2, 1500);
        x.delay(0, 1.0, 1.0);
        x.link(10000.0, 1000000);
        comeMany(x, 0, 2, 1);
        x.tick(1);
        checks.due("the last in its queue is not late", x.count(0, 1), 2);
        comeMany(x, 0, 2, 1);
        x.tick(1);
        checks.due("ABOVE was none again", x.count(0, 1), 4);
        comeMany(x, 0, 4, 1);
        x.link(0.5, 1000000);
        x.tick(1);
        x.come(0, 1, false);
        x.tick(2);
        // 4 went at 3 and made ABOVE 4.0; 5 is late at 5.
        dueNumbers("late", x, 6, 4);
        checks.due("lost", x.count(0, 4), 1);

        LinkQueues y = new LinkQueues();
        y.kind(0, 2, 1500);
        y.delay(0, 2.0, 2.0);
        comeMany(y, 0, 6, 100);
        y.tick(3);
        comeMany(y, 0, 4, 100);
        y.delay(0, 5.0, 6.0);
        y.tick(1);
        checks.due("a WAIT of 4 is below TARGET now", y.count(0, 4), 0);
        y.tick(1);
        y.delay(0, 2.0, 2.0);
        y.tick(1);
        checks.due("and made ABOVE none", y.count(0, 4), 0);
    }

    private void delayMarksOnlyOnce() {
        LinkQueues x = exactMean(0.0, 100.0, 1.0);
        x.delay(0, 1.0, 1.0);
        x.come(0, 100, false);
        x.coin(0.0);
        x.come(0, 100, true);
        checks.due("p / d is above 0.0: marked by the mean", x.count(0, 5), 1);
        x.kind(0, 2, 1500);
        comeMany(x, 0, 3, 100);
        x.link(50.0, 1000000);
        // 0 goes at 1 and makes ABOVE 2.0, 1 is late at 2.
        x.tick(1);
        x.tick(1);
        checks.due("it drops", x.next(0), 3.0);
        dueSent("hit, and marked already", x, 0, 1, 0, 100, 2, 1);
        dueCounts("each is marked once", x, 0, 5, 2, 0, 0, 0, 1, 3);

        LinkQueues y = dropping();
        LinkQueues z = new LinkQueues();
        z.kind(0, 2, 1500);
        z.delay(0, 2.0, 3.0);
        for (int k = 0; k < 20; k++) {
            z.come(0, 100, true);
        }
        y.tick(8);
        z.tick(8);
        checks.due("the times are the same for markable ones", z.next(0), y.next(0));
        dueNumbers("markable ones go, marked", z, 8, 7, 6, 5, 4, 3, 2, 1, 0);
        checks.due("marked at 5", z.sent(3, 4), 1);
        checks.due("not marked at 6", z.sent(2, 4), 0);
        dueCounts("marked by the delay", z, 0, 20, 9, 0, 0, 0, 2, 11);
    }

    private void delayLeavesTheDeficit() {
        LinkQueues x = new LinkQueues();
        x.kind(0, 2, 300);
        x.delay(0, 1.0, 1.0);
        x.link(50.0, 1000000);
        x.come(0, 100, false);
        x.come(0, 150, false);
        x.come(0, 300, false);
        x.come(0, 10, false);
        x.come(1, 10, false);
        x.tick(1);
        dueNumbers("at 1", x, 0, -1);
        checks.due("DEFICIT at 1", x.count(0, 9), 200);
        // 1 is late at 2 but lost; 2 has more bytes than DEFICIT, stays, and class 1 has its turn.
        x.tick(1);
        dueCounts("at 2", x, 0, 4, 1, 0, 0, 1, 0, 2, 310, 100, 200);
        checks.due("class 1 went", x.sent(0, 0), 4);
    }

    private void delayRefuses() {
        LinkQueues x = new LinkQueues();
        double none = Double.NaN;
        double[][] wrong = {
            {0.0, 1.0}, {-1.0, 1.0}, {2.0, 1.0}, {1.0, 10000.001}, {none, 1.0}, {1.0, none},
            {1.0, Double.POSITIVE_INFINITY}, {Double.POSITIVE_INFINITY, Double.POSITIVE_INFINITY},
        };
        for (double[] w : wrong) {
            checks.refused("delay(0, " + w[0] + ", " + w[1] + ")", ARGUMENT, () -> x.delay(0, w[0], w[1]));
        }
        checks.refused("delay(-1, ..)", ARGUMENT, () -> x.delay(-1, 1.0, 1.0));
        checks.refused("delay(6, ..)", ARGUMENT, () -> x.delay(6, 1.0, 1.0));
        x.delay(0, 10000.0, 10000.0);
        x.delay(5, Double.MIN_VALUE, Double.MIN_VALUE);
    }

    // Promise 5

    private void linkRates() {
        LinkQueues x = new LinkQueues();
        x.link(0.125, 1000000);
        x.come(0, 1, false);
        x.tick(1);
        checks.due("rate 0.125", x.free(), 8.0);
        x.link(10000.0, 1000000);
        checks.due("FREE is not reckoned again", x.free(), 8.0);
        x.come(0, 1000, false);
        x.tick(6);
        checks.due("it is not free at 7", x.count(0, 6), 1);
        x.tick(1);
        checks.due("rate 10000.0", x.free(), 8.1);
    }

    private void linkLimits() {
        LinkQueues x = new LinkQueues();
        x.link(100.0, 1000);
        checks.due("room for 600", x.come(0, 600, false), 0);
        checks.due("no room for 401 of another class", x.come(1, 401, false), -1);
        checks.due("room for 400", x.come(1, 400, false), 2);
        checks.due("no room for 1", x.come(2, 1, false), -1);
        x.link(100.0, 1);
        checks.due("packets stay below a smaller limit", x.count(0, 7), 600);
        x.tick(20);
        checks.due("room for 1", x.come(2, 1, false), 4);
        checks.due("one at a time", x.come(2, 1, false), -1);
        dueCounts("lost to a full buffer", x, 2, 3, 0, 2, 0, 0, 0, 1, 1, 0, 0);
    }

    private void linkRefuses() {
        LinkQueues x = new LinkQueues();
        checks.refused("link(0.124, 1)", ARGUMENT, () -> x.link(0.124, 1));
        checks.refused("link(10000.001, 1)", ARGUMENT, () -> x.link(10000.001, 1));
        checks.refused("link(NaN, 1)", ARGUMENT, () -> x.link(Double.NaN, 1));
        checks.refused("link(Infinity, 1)", ARGUMENT, () -> x.link(Double.POSITIVE_INFINITY, 1));
        checks.refused("link(-1.0, 1)", ARGUMENT, () -> x.link(-1.0, 1));
        checks.refused("link(1.0, 0)", ARGUMENT, () -> x.link(1.0, 0));
        checks.refused("link(1.0, 1000001)", ARGUMENT, () -> x.link(1.0, 1000001));
        checks.refused("link(1.0, -5)", ARGUMENT, () -> x.link(1.0, -5));
        x.link(0.125, 1);
        x.link(10000.0, 1000000);
    }

    // Promise 6

    private void coinsAreUsedInOrder() {
        LinkQueues x = exactMean(0.5, 1.5, 1.0);
        x.come(0, 10, false);
        checks.due("the first coin", x.coin(0.3), 1);
        checks.due("the second coin", x.coin(0.7), 2);
        checks.due("0.3 hits", x.come(0, 10, false), -1);
        checks.due("it was used", x.coin(0.6), 2);
        x.kind(0, 1, 1500);
        checks.due("0.7 does not hit", x.come(0, 10, false), 2);
        checks.due("it was used too", x.coin(0.1), 2);

        LinkQueues y = exactMean(0.0, 1000.0, 0.001);
        for (int k = 1; k <= 64; k++) {
            checks.due("coin " + k, y.coin(0.9), k);
        }
        comeMany(y, 0, 3, 10);
        checks.due("three were used", y.coin(0.9), 62);
        y.coin(0.9);
        checks.due("64 again", y.coin(0.0), 64);
        checks.refused("a coin above 64", STATE, () -> y.coin(0.0));
        for (int k = 0; k < 63; k++) {
            checks.due("0.9 lets all stay", y.come(0, 10, false), 3 + k);
        }
        checks.due("the 64th of the row round is 0.0", y.come(0, 10, false), -1);
        checks.due("none waits", y.coin(0.0), 1);
    }

    private void coinRefuses() {
        LinkQueues x = new LinkQueues();
        double[] wrong = {1.0, -0.001, 2.0, Double.NaN, Double.POSITIVE_INFINITY, Double.NEGATIVE_INFINITY};
        for (double w : wrong) {
            checks.refused("coin(" + w + ")", ARGUMENT, () -> x.coin(w));
        }
        checks.due("the greatest coin; none of the wrong ones waits", x.coin(0.9999999999999999), 1);
        checks.due("the least coin", x.coin(0.0), 2);
        for (int k = 3; k <= 64; k++) {
            x.coin(0.5);
        }
        checks.refused("the 65th coin", STATE, () -> x.coin(0.5));
    }

    // Promise 7

    private void comeNumbers() {
        LinkQueues x = new LinkQueues();
        checks.due("number 0", x.come(0, 1, false), 0);
        checks.due("number 1", x.come(5, 1500, true), 1);
        x.link(100.0, 1);
        checks.due("lost", x.come(0, 1, false), -1);
        x.link(100.0, 1000000);
        checks.due("the lost one had number 2", x.come(0, 1, false), 3);
        LinkQueues y = exactMean(0.0, 1.0, 1.0);
        y.come(0, 1, false);
        checks.due("lost to the mean", y.come(0, 1, false), -1);
        checks.due("it had number 1", y.come(1, 1, false), 2);
    }

    private void comeFindsNoRoom() {
        LinkQueues x = new LinkQueues();
        x.kind(0, 1, 1500);
        x.mean(0, 500.0, 1000.0, 1.0, 0.5);
        for (int k = 0; k < 100; k++) {
            checks.due("room for 100", x.come(k % 6, 1500, false), k);
        }
        double average = x.average(0);
        checks.due("no room for 101", x.come(0, 1, true), -1);
        checks.due("the class does not hear of it", x.average(0), average);
        dueCounts("lost to a full buffer", x, 0, 18, 0, 1, 0, 0, 0, 17, 17 * 1500, 0, 0);
        x.tick(1);
        checks.due("room again", x.come(0, 1, false), 101);
        checks.due("and full again", x.come(1, 1, false), -1);
    }

    private void comeRefuses() {
        LinkQueues x = new LinkQueues();
        checks.refused("come(-1, 1, true)", ARGUMENT, () -> x.come(-1, 1, true));
        checks.refused("come(6, 1, true)", ARGUMENT, () -> x.come(6, 1, true));
        checks.refused("come(0, 0, true)", ARGUMENT, () -> x.come(0, 0, true));
        checks.refused("come(0, 1501, true)", ARGUMENT, () -> x.come(0, 1501, true));
        checks.due("they had no numbers", x.come(0, 1, true), 0);
        checks.due("and did not come", x.count(0, 0), 1);
    }

    // Promise 8

    private void tickSends() {
        LinkQueues x = new LinkQueues();
        checks.due("nothing to send", x.tick(1000), 0);
        checks.due("a thousand ticks", x.clock(), 1000);
        comeMany(x, 0, 5, 40);
        // FREE is 1000.0, then 1000.4, 1000.8, 1001.2.
        checks.due("as long as FREE is not above the clock", x.tick(1), 3);
        checks.due("the others a tick later", x.tick(1), 2);
        comeMany(x, 1, 3, 200);
        // FREE is 1002.0, so 1003 sends two, and 1004 none but is the time FREE.
        checks.due("FREE at the clock is free", x.tick(1), 1);
        checks.due("two are left", x.tick(1), 1);
        checks.due("one is left", x.tick(2), 1);
        LinkQueues y = new LinkQueues();
        y.link(10000.0, 1000000);
        comeMany(y, 0, 100, 1);
        checks.due("a hundred in one tick", y.tick(1), 100);
    }

    private void tickRefuses() {
        LinkQueues x = new LinkQueues();
        checks.refused("tick(0)", ARGUMENT, () -> x.tick(0));
        checks.refused("tick(1001)", ARGUMENT, () -> x.tick(1001));
        checks.refused("tick(-1)", ARGUMENT, () -> x.tick(-1));
        checks.due("they were no ticks", x.clock(), 0);
    }

    // Promise 9

    private void counts() {
        LinkQueues x = new LinkQueues();
        x.link(100.0, 1000);
        x.come(4, 300, false);
        x.come(4, 500, false);
        x.come(4, 201, false);
        x.come(4, 200, false);
        dueCounts("before", x, 4, 4, 0, 1, 0, 0, 0, 3, 1000, 0, 0);
        x.tick(1);
        dueCounts("one went", x, 4, 4, 1, 1, 0, 0, 0, 2, 700, 300, 1200);
        x.tick(20);
        dueCounts("all went", x, 4, 4, 3, 1, 0, 0, 0, 0, 0, 1000, 0);
        dueCounts("another class", x, 3, 0, 0, 0, 0, 0, 0, 0, 0, 0, 0);
        checks.refused("count(-1, 0)", ARGUMENT, () -> x.count(-1, 0));
        checks.refused("count(6, 0)", ARGUMENT, () -> x.count(6, 0));
        checks.refused("count(0, -1)", ARGUMENT, () -> x.count(0, -1));
        checks.refused("count(0, 10)", ARGUMENT, () -> x.count(0, 10));
    }

    // Promises 10 and 11

    private void averageAndNextRefuse() {
        LinkQueues x = new LinkQueues();
        checks.refused("average(-1)", ARGUMENT, () -> x.average(-1));
        checks.refused("average(6)", ARGUMENT, () -> x.average(6));
        checks.refused("next(-1)", ARGUMENT, () -> x.next(-1));
        checks.refused("next(6)", ARGUMENT, () -> x.next(6));
        comeMany(x, 0, 10, 1);
        checks.due("a plain class reckons no average", x.average(0), 0.0);
    }

    // Promise 12

    private void freeFollowsTheClock() {
        LinkQueues x = new LinkQueues();
        x.tick(7);
        checks.due("nothing to send", x.free(), 7.0);
        x.come(0, 50, false);
        checks.due("not before a tick", x.free(), 7.0);
        x.tick(1);
        checks.due("sent from 7.0 to 7.5, then nothing at 8", x.free(), 8.0);
        x.come(0, 250, false);
        x.tick(1);
        checks.due("sent until 10.5", x.free(), 10.5);
        x.tick(1);
        checks.due("above the clock it stays", x.free(), 10.5);
        x.tick(1);
        checks.due("nothing at 11", x.free(), 11.0);
    }

    // Promise 13

    private void sentTellsThirtyTwo() {
        LinkQueues x = new LinkQueues();
        x.link(10000.0, 1000000);
        for (int k = 0; k < 31; k++) {
            x.come(k % 6, 100 + k, false);
            x.tick(1);
        }
        checks.due("31 were sent", x.sent(30, 0), 0);
        checks.due("no 32nd", x.sent(31, 0), -1);
        for (int k = 31; k < 40; k++) {
            x.come(k % 6, 100 + k, false);
            x.tick(k == 39 ? 5 : 1);
        }
        dueSent("the last", x, 0, 39, 3, 139, 1, 0);
        dueSent("the one before", x, 1, 38, 2, 138, 1, 0);
        dueSent("the 32nd last", x, 31, 8, 2, 108, 1, 0);
        dueSent("the 33rd last is not told", x, 32, -1, -1, -1, -1, -1);
        dueSent("no place", x, -1, -1, -1, -1, -1, -1);
        dueSent("the greatest place", x, Integer.MAX_VALUE, -1, -1, -1, -1, -1);
        dueSent("the least place", x, Integer.MIN_VALUE, -1, -1, -1, -1, -1);
        checks.refused("sent(0, 5)", ARGUMENT, () -> x.sent(0, 5));
        checks.refused("sent(0, -1)", ARGUMENT, () -> x.sent(0, -1));
        checks.refused("sent(-1, 5)", ARGUMENT, () -> x.sent(-1, 5));
        x.link(100.0, 1000000);
        comeMany(x, 0, 2, 1000);
        x.tick(20);
        checks.due("the WAIT of the second", x.sent(0, 3), 10);
    }

    // Promise 14

    private void roundTurns() {
        LinkQueues x = new LinkQueues();
        x.come(3, 1000, false);
        x.come(1, 1000, false);
        x.come(3, 1000, false);
        x.come(5, 1000, false);
        int[] want = {3, 1, 5, -1};
        for (int k = 0; k < want.length; k++) {
            checks.due("round(" + k + ")", x.round(k), want[k]);
        }
        checks.due("round(-1)", x.round(-1), -1);
        checks.due("the greatest place", x.round(Integer.MAX_VALUE), -1);
        checks.due("the least place", x.round(Integer.MIN_VALUE), -1);
        x.tick(1);
        checks.due("the turn goes on", x.round(0), 3);
        checks.due("with what is left of it", x.count(3, 9), 500);
        x.tick(10);
        checks.due("class 1 went and left, 5 is first", x.round(0), 5);
        checks.due("3 is last", x.round(1), 3);
        checks.due("no turn began yet", x.count(5, 9), 0);
        checks.due("3 took its deficit with it", x.count(3, 9), 500);
        x.come(1, 1000, false);
        checks.due("1 came back, as the last", x.round(2), 1);
        x.tick(10);
        dueNumbers("5 went", x, 3, 1, 0);
        x.tick(10);
        dueNumbers("3 went", x, 2, 3, 1, 0);
        checks.due("1 is left", x.round(0), 1);
        checks.due("alone", x.round(1), -1);
        x.tick(10);
        checks.due("nothing is left", x.round(0), -1);
    }

    private void turnsNeedDeficits() {
        LinkQueues x = new LinkQueues();
        x.kind(0, 0, 500);
        x.kind(1, 0, 500);
        x.link(10000.0, 1000000);
        x.come(0, 1200, false);
        x.come(1, 500, false);
        x.come(1, 501, false);
        x.come(0, 400, false);
        x.tick(1);
        // 0 has 500, 1 has 500 and sends; 0 has 1000, 1 has 500; 0 has 1500 and sends, 300 are left of it.
        dueNumbers("in turns", x, 3, 2, 0, 1);

        LinkQueues exact = new LinkQueues();
        exact.kind(0, 0, 500);
        exact.come(0, 500, false);
        exact.come(0, 1, false);
        exact.come(1, 1, false);
        exact.tick(10);
        dueNumbers("as many bytes as DEFICIT go", exact, 1, 2, 0);

        LinkQueues y = new LinkQueues();
        y.kind(0, 0, 1);
        y.come(0, 1500, false);
        checks.due("1500 turns of one class alone", y.tick(1), 1);
        checks.due("and the deficit is gone with it", y.count(0, 9), 0);
        for (int i = 0; i < 6; i++) {
            y.kind(i, 0, 1);
            y.come(i, 1500 - i, false);
        }
        y.tick(100);
        dueNumbers("the fewest bytes go first", y, 1, 2, 3, 4, 5, 6, 0);
    }

    // Promise 15

    private void clockTicks() {
        LinkQueues x = new LinkQueues();
        x.tick(1);
        checks.due("one tick", x.clock(), 1);
        x.tick(999);
        x.come(0, 1, false);
        checks.due("a thousand", x.clock(), 1000);
        for (int k = 0; k < 500; k++) {
            x.tick(1000);
        }
        checks.due("many", x.clock(), 501000);
    }
}
