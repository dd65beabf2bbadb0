/** The boundary cases of the kind MEAN: when its average is reckoned, and when a packet goes or is marked. */
final class MeanBoundaries extends Boundaries {
    MeanBoundaries(Sentences say) {
        super(say);
    }

    @Override
    void test() {
        all(
            this::firstWeight, this::firstLowHighAndTop, this::firstCount, this::emptyForSoManyTicks,
            this::emptySinceTheLastWent, this::emptySinceNow, this::averageOfThoseInTheQueue,
            this::averageFromTheLeftOn, this::chanceFromTheLeftOn, this::belowLow, this::belowLowCountIsMinusOne,
            this::highOrAbove, this::atHighCountIsZero, this::surelyHit, this::coinBelowTheChance,
            this::countIsOneMore, this::countIsZeroBehindAHit, this::hitAndMarkable, this::toldOfOneClass,
            this::toldNumbersStay, this::keptAndForgotten, this::otherKindsHaveNoAverage
        );
    }

    // At first

    private void firstWeight() {
        say.sentence(1, "MEAN has LOW, HIGH, TOP, WEIGHT (5.0, 15.0, 0.1, 0.25 at first), an AVERAGE (0.0)");
        LinkQueues x = new LinkQueues();
        x.kind(0, 1, 1500);
        say.due("AVERAGE", x.average(0), 0.0);
        x.come(0, 1, false);
        say.due("of an empty queue", x.average(0), 0.0);
        x.come(0, 1, false);
        say.due("of one packet", x.average(0), 0.25);
    }

    private void firstLowHighAndTop() {
        say.sentence(1, "LOW, HIGH, TOP, WEIGHT (5.0, 15.0, 0.1, 0.25 at first)");
        LinkQueues x = new LinkQueues();
        x.kind(0, 1, 1500);
        comeMany(x, 0, 8, 1);
        double average = 5.3003387451171875;
        double p = 0.1 * (average + 0.25 * (9 - average) - 5.0) / 10.0;
        tellCoins(x, 0.1 * (average - 5.0) / 10.0, Math.nextDown(p / (1.0 - 1 * p)));
        say.due("below LOW no coin was used", coinsThatWaited(x), 2);
        say.due("the first average above LOW, and a coin of just p / d", x.come(0, 1, false), 8);
        say.due("that average", x.average(0), average);
        say.due("the next, and a coin just below p / d", x.come(0, 1, false), -1);
        dueHighAtFirst();
    }

    private void dueHighAtFirst() {
        LinkQueues x = new LinkQueues();
        x.kind(0, 1, 1500);
        double average = 0.0;
        for (int n = 0; n < 100 && average < 15.0; n++) {
            average = average + 0.25 * (n - average);
            say.due("markable ones stay as long as the average is below 15.0, not at " + average,
                x.come(0, 1, true) >= 0 ? 1 : 0, average < 15.0 ? 1 : 0);
        }
        say.due("one went", x.count(0, 3), 1);
    }

    private void firstCount() {
        say.sentence(1, "a COUNT (-1), and when its queue became empty last (0 at first).");
        for (double coin : new double[] {0.3, 0.4}) {
            LinkQueues x = exactMean(0.0, 4.0, 1.0);
            x.come(0, 1, false);
            x.coin(coin);
            // COUNT became 0 and then 1: p is 0.25, and p / d is 0.25 / 0.75.
            say.due("a coin of " + coin, x.come(0, 1, false), coin < 1.0 / 3.0 ? -1 : 1);
        }
    }

    // The average

    private void emptyForSoManyTicks() {
        say.sentence(10, "First, if its queue is empty: for each tick since then, but 100 at most, AVERAGE becomes AVERAGE * (1.0 - WEIGHT)");
        for (int ticks : new int[] {0, 1, 2, 99, 100, 101, 1000}) {
            LinkQueues x = emptied();
            if (ticks > 0) {
                x.tick(ticks);
            }
            say.due("before a packet comes", x.average(0), 0.5);
            x.come(0, 1, false);
            double due = 0.5;
            for (int k = 0; k < Math.min(ticks, 100); k++) {
                due = due * (1.0 - 0.0625);
            }
            say.due("empty for " + ticks + " ticks", x.average(0), due);
        }
    }

    /** Class 0 is of the kind MEAN, its average 0.5, its WEIGHT 0.0625 now, its queue empty since 1, the clock. */
    private static LinkQueues emptied() {
        LinkQueues x = new LinkQueues();
        x.kind(0, 1, 1500);
        x.mean(0, 500.0, 1000.0, 1.0, 0.5);
        comeMany(x, 0, 2, 10);
        x.tick(1);
        x.mean(0, 500.0, 1000.0, 1.0, 0.0625);
        return x;
    }

    private void emptySinceTheLastWent() {
        say.sentence(10, "when its queue became empty last");
        LinkQueues x = new LinkQueues();
        x.kind(0, 1, 1500);
        x.mean(0, 500.0, 1000.0, 1.0, 0.5);
        x.come(0, 700, false);
        x.come(0, 900, false);
        // The one goes at 1, and the other at 7, in the midst of a call.
        x.tick(10);
        x.come(0, 700, false);
        say.due("empty from 7 to 10", x.average(0), 0.0625);
        x.come(0, 100, false);
        x.tick(30);
        x.come(0, 100, false);
        // 700 bytes go at 16, when FREE is 16.0, and 100 at 23.
        say.due("empty from 23 to 40", x.average(0), (0.0625 + 0.5 * (1 - 0.0625)) / (1 << 17));
    }

    private void emptySinceNow() {
        say.sentence(10, "and it counts as empty since now.");
        LinkQueues x = emptied();
        x.mean(0, 0.0, 0.0009765625, 1.0, 0.5);
        x.tick(3);
        say.due("it goes, and leaves the queue empty", x.come(0, 1, false), -1);
        say.due("three ticks", x.average(0), 0.0625);
        say.due("the next goes at once", x.come(0, 1, false), -1);
        say.due("no tick since", x.average(0), 0.0625);
        x.tick(1);
        x.come(0, 1, false);
        say.due("one tick since", x.average(0), 0.03125);
    }

    private void averageOfThoseInTheQueue() {
        say.sentence(10, "Else AVERAGE becomes AVERAGE + WEIGHT * (n - AVERAGE), n being how many PACKETS are in the queue.");
        LinkQueues x = exactMean(999.0, 1000.0, 1.0);
        comeMany(x, 1, 10, 1);
        x.come(0, 1, false);
        say.due("those of another class do not count", x.average(0), 0.0);
        for (int n = 1; n < 90; n++) {
            x.come(0, 1, false);
            say.due("the coming one does not count", x.average(0), n);
        }
        x.come(0, 1, false);
        say.due("the buffer is full", x.average(0), 89.0);

        LinkQueues y = exactMean(999.0, 1000.0, 1.0);
        y.come(0, 1500, false);
        y.come(0, 1500, false);
        y.tick(10);
        y.mean(0, 999.0, 1000.0, 1.0, 0.5);
        y.come(0, 1, false);
        say.due("ticks do not count where one waits", y.average(0), 1.0);
    }

    private void averageFromTheLeftOn() {
        say.sentence(10, "Numbers in doubles are reckoned just as written here, from the left on, in brackets first.");
        LinkQueues x = new LinkQueues();
        x.kind(0, 1, 1500);
        x.mean(0, 999.0, 1000.0, 1.0, 0.1);
        comeMany(x, 0, 4, 1);
        say.due("0.1 of 1, 2, 3", x.average(0), 0.561);
        comeMany(x, 0, 16, 1);
        say.due("0.1 of 1 to 19", x.average(0), 11.215766545905693);
    }

    private void chanceFromTheLeftOn() {
        say.sentence(3, "with p = TOP * (AVERAGE - LOW) / (HIGH - LOW) and d = 1.0 - COUNT * p");
        // TOP times the quotient would be 0.020000000000000004.
        LinkQueues x = exactMean(0.5, 3.0, 0.1);
        tellCoins(x, 0.02, 0.9);
        x.come(0, 1, false);
        say.due("a coin of 0.02 is not below p", x.come(0, 1, false), 1);
        // TOP times the quotient would be 0.014285714285714285.
        LinkQueues y = exactMean(0.5, 4.0, 0.1);
        tellCoins(y, 0.014285714285714285, 0.9);
        y.come(0, 1, false);
        say.due("a coin of 0.014285714285714285 is", y.come(0, 1, false), -1);
    }

    // Below LOW, at HIGH, between them

    private void belowLow() {
        say.sentence(3, "If AVERAGE is below LOW: COUNT is -1, and it stays.");
        LinkQueues at = exactMean(1.0, 1000.0, 1.0);
        at.coin(0.9);
        comeMany(at, 0, 2, 1);
        say.due("at LOW a coin is used", coinsThatWaited(at), 0);
        LinkQueues below = exactMean(Math.nextUp(1.0), 1000.0, 1.0);
        below.coin(0.9);
        comeMany(below, 0, 2, 1);
        say.due("just below LOW none is", coinsThatWaited(below), 1);
        LinkQueues just = exactMean(Math.nextUp(1.0), Math.nextUp(Math.nextUp(1.0)), 1.0);
        just.coin(0.0);
        just.come(0, 1, false);
        say.due("just below LOW it stays whatever the coin", just.come(0, 1, false), 1);
    }

    private void belowLowCountIsMinusOne() {
        say.sentence(3, "If AVERAGE is below LOW: COUNT is -1");
        LinkQueues x = exactMean(0.0, 1000.0, 0.001);
        comeMany(x, 0, 4, 1);
        x.mean(0, 5.0, 1000.0, 1.0, 1.0);
        x.come(0, 1, false);
        x.mean(0, 4.5, 5.5, 1.0, 1.0);
        x.coin(0.5);
        // COUNT was 3, is 0 now: p / d is 0.5, not more.
        say.due("a coin of p", x.come(0, 1, false), 5);
    }

    private void highOrAbove() {
        say.sentence(3, "If it is HIGH or above: COUNT is 0, and it goes.");
        LinkQueues at = exactMean(0.5, 1.0, 1.0);
        at.come(0, 1, false);
        at.coin(0.9);
        say.due("at HIGH even a markable one goes", at.come(0, 1, true), -1);
        dueCounts("lost to the mean, not marked", at, 0, 2, 0, 0, 1, 0, 0, 1);
        say.due("and uses no coin", coinsThatWaited(at), 1);
        LinkQueues below = exactMean(0.5, Math.nextUp(1.0), 1.0);
        below.come(0, 1, false);
        say.due("just below HIGH a markable one stays", below.come(0, 1, true), 1);
        dueCounts("marked", below, 0, 2, 0, 0, 0, 0, 1, 2);
        LinkQueues above = exactMean(0.5, Math.nextDown(1.0), 1.0);
        above.come(0, 1, false);
        say.due("above HIGH it goes", above.come(0, 1, true), -1);
    }

    private void atHighCountIsZero() {
        say.sentence(3, "COUNT is 0, and it goes.");
        for (double coin : new double[] {0.3, 0.4}) {
            LinkQueues x = exactMean(0.5, 1.0, 1.0);
            comeMany(x, 0, 2, 1);
            x.mean(0, 0.0, 4.0, 1.0, 1.0);
            x.coin(coin);
            // COUNT is 1: p is 0.25, and p / d is 0.25 / 0.75.
            say.due("a coin of " + coin, x.come(0, 1, false), coin < 1.0 / 3.0 ? -1 : 2);
        }
    }

    private void surelyHit() {
        say.sentence(3, "it HITS if d is not above 0.0");
        LinkQueues at = threeOfCountTwo();
        at.mean(0, 0.0, 6.0, 1.0, 1.0);
        say.due("d is 1.0 - 2 * 0.5", at.come(0, 1, false), -1);
        say.due("and no coin is used", coinsThatWaited(at), 1);
        LinkQueues above = threeOfCountTwo();
        above.mean(0, 0.0, Math.nextUp(6.0), 1.0, 1.0);
        say.due("d is just above 0.0", above.come(0, 1, false), -1);
        say.due("and a coin is used", coinsThatWaited(above), 0);
        LinkQueues below = threeOfCountTwo();
        below.mean(0, 0.0, 4.0, 1.0, 1.0);
        say.due("d is 1.0 - 2 * 0.75", below.come(0, 1, false), -1);
        say.due("and no coin is used there", coinsThatWaited(below), 1);
    }

    /** Three packets wait, COUNT is 1 and will be 2 next, and a coin waits. */
    private static LinkQueues threeOfCountTwo() {
        LinkQueues x = exactMean(0.5, 1000.0, 0.001);
        comeMany(x, 0, 3, 1);
        x.coin(0.9);
        return x;
    }

    private void coinBelowTheChance() {
        say.sentence(6, "or the next COIN is below p / d");
        double second = 0.25 / (1.0 - 1 * 0.25);
        for (double coin : new double[] {0.5, Math.nextDown(0.5)}) {
            LinkQueues x = exactMean(0.5, 1.5, 1.0);
            x.come(0, 1, false);
            x.coin(coin);
            say.due("p / d is 0.5, the coin " + coin, x.come(0, 1, false), coin < 0.5 ? -1 : 1);
        }
        for (double coin : new double[] {second, Math.nextDown(second)}) {
            LinkQueues x = exactMean(0.0, 4.0, 1.0);
            x.come(0, 1, false);
            x.coin(coin);
            say.due("p / d is 0.25 / 0.75, the coin " + coin, x.come(0, 1, false), coin < second ? -1 : 1);
        }
        LinkQueues none = exactMean(1.0, 2.0, 1.0);
        none.come(0, 1, false);
        none.coin(0.0);
        say.due("p is 0.0, the coin 0.0", none.come(0, 1, false), 1);
    }

    private void countIsOneMore() {
        say.sentence(3, "Between them: COUNT is one more");
        // p is 0.125 each time: p / d is 1/8, 1/7, 1/6, 1/5 with a COUNT of 0, 1, 2, 3.
        for (int hit = 0; hit < 4; hit++) {
            for (int side = 0; side < 2; side++) {
                LinkQueues x = exactMean(0.5, 1.0, 1.0);
                x.come(0, 1, false);
                int stays = 0;
                for (int count = 0; count <= hit; count++) {
                    x.mean(0, 0.5 + count, 4.5 + count, 1.0, 1.0);
                    double chance = 1.0 / (8 - count);
                    x.coin(count == hit && side == 1 ? chance - 0.001 : chance + 0.001);
                    stays += x.come(0, 1, false) >= 0 ? 1 : 0;
                }
                say.due("p / d of COUNT " + hit + ", coin " + (side == 1 ? "below" : "above"), stays, hit + 1 - side);
            }
        }
    }

    private void countIsZeroBehindAHit() {
        say.sentence(3, "then COUNT is 0, and it goes, but if it is MARKABLE it stays, MARKED.");
        for (boolean markable : new boolean[] {false, true}) {
            for (double coin : new double[] {0.14, 0.145}) {
                LinkQueues x = exactMean(0.5, 1000.0, 0.001);
                comeMany(x, 0, 3, 1);
                int waiting = markable ? 4 : 3;
                x.mean(0, 0.0, 4.0, 1.0, 1.0);
                // COUNT is 2, d below 0.0, and COUNT is 0 then, 1 at the next: p is 1/8, and p / d 1/7.
                say.due("the hit", x.come(0, 1, markable), markable ? 3 : -1);
                x.mean(0, waiting - 0.5, waiting + 3.5, 1.0, 1.0);
                x.coin(coin);
                say.due("a coin of " + coin + " behind it", x.come(0, 1, false), coin < 1.0 / 7.0 ? -1 : 4);
            }
        }
    }

    private void hitAndMarkable() {
        say.sentence(7, "but if it is MARKABLE it stays, MARKED.");
        LinkQueues x = exactMean(0.5, 1.5, 1.0);
        x.come(0, 1, true);
        tellCoins(x, 0.25);
        say.due("hit and markable", x.come(0, 1, true), 1);
        x.mean(0, 1.5, 2.5, 1.0, 1.0);
        x.kind(0, 1, 1500);
        tellCoins(x, 0.25);
        say.due("hit and not markable", x.come(0, 1, false), -1);
        dueCounts("one marked, one lost", x, 0, 3, 0, 0, 1, 0, 1, 2, 2, 0, 0);
        x.tick(1);
        say.due("the hit one is marked", x.sent(0, 4), 1);
        say.due("the markable one that was not hit is not", x.sent(1, 4), 0);
    }

    // What is told, and kind

    private void toldOfOneClass() {
        say.sentence(3, "LOW, HIGH, TOP, WEIGHT of a class.");
        LinkQueues x = new LinkQueues();
        for (int i = 0; i < 6; i++) {
            x.kind(i, 1, 1500);
        }
        x.mean(3, 0.5, 1.0, 1.0, 1.0);
        for (int i = 0; i < 6; i++) {
            x.come(i, 1, true);
            x.come(i, 1, true);
            say.due("the average of class " + i, x.average(i), i == 3 ? 1.0 : 0.25);
            say.due("lost of class " + i, x.count(i, 3), i == 3 ? 1 : 0);
        }
    }

    private void toldNumbersStay() {
        say.sentence(2, "what mean and delay told, and its PACKETS, stay");
        LinkQueues x = new LinkQueues();
        x.mean(0, 0.5, 1.0, 1.0, 1.0);
        x.kind(0, 2, 1500);
        x.come(0, 10, false);
        x.kind(0, 1, 1500);
        dueCounts("its packet", x, 0, 1, 0, 0, 0, 0, 0, 1, 10, 0, 0);
        dueRound("its place in the round", x, 0);
        say.due("HIGH is 1.0 still", x.come(0, 10, false), -1);
        say.due("WEIGHT is 1.0 still", x.average(0), 1.0);
    }

    private void keptAndForgotten() {
        say.sentence(2, "all else that its KINDS have is as at first, but that it counts as empty since now.");
        for (double coin : new double[] {0.24, 0.26}) {
            LinkQueues x = exactMean(0.0, 1000.0, 0.001);
            comeMany(x, 0, 3, 1);
            say.due("AVERAGE before", x.average(0), 2.0);
            x.kind(0, 1, 1500);
            say.due("AVERAGE", x.average(0), 0.0);
            x.mean(0, 2.0, 6.0, 1.0, 1.0);
            x.coin(coin);
            // COUNT was 2, became -1 and is 0: p / d is 0.25.
            say.due("COUNT, a coin of " + coin, x.come(0, 1, false), coin < 0.25 ? -1 : 3);
        }
        LinkQueues y = emptied();
        y.tick(5);
        y.kind(0, 1, 1500);
        y.come(0, 1, false);
        say.due("the average of an empty queue", y.average(0), 0.0);
    }

    private void otherKindsHaveNoAverage() {
        say.sentence(10, "A class's AVERAGE.");
        LinkQueues x = emptied();
        say.due("of the kind MEAN", x.average(0), 0.5);
        say.due("of another class", x.average(1), 0.0);
        x.kind(0, 0, 1500);
        comeMany(x, 0, 5, 1);
        say.due("of the kind PLAIN now", x.average(0), 0.0);
        x.kind(0, 2, 1500);
        comeMany(x, 0, 5, 1);
        say.due("of the kind DELAY now", x.average(0), 0.0);
    }
}
