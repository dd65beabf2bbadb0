/** The boundary cases of a packet's coming: room, numbers, who looks at it, and the coins. */
final class ComingBoundaries extends Boundaries {
    ComingBoundaries(Sentences say) {
        super(say);
    }

    @Override
    void test() {
        all(
            this::numbersToTheLastCall, this::lostPacketsHaveNumbers, this::refusedPacketsHaveNone,
            this::bytesOfOnePacket, this::roomForAHundred, this::roomForAllBytesAtFirst, this::roomUpToTheLimit,
            this::limitOfOneByte, this::limitBelowWhatWaits, this::fullBufferBeforeTheMean,
            this::fullBufferIsNotHeardOf, this::fullBufferIsNotHeardOfByAnEmptyQueue, this::firstComeFirst,
            this::onlyTheMeanLooks, this::lostToTheMeanIsInNoQueue, this::coinsUpToSixtyFour, this::coinsGoRound,
            this::coinsAreUsedWhereOneIsNeeded, this::coinsOfNobody, this::coinsAreCounted
        );
    }

    private void numbersToTheLastCall() {
        say.sentence(7, "A PACKET has a number, from 0 on in the order of coming, 1 .. 1500 bytes, a time of coming, and it may be MARKABLE.");
        LinkQueues x = new LinkQueues();
        x.link(10000.0, 1000000);
        // With its call of link and five of tick these are the 512 calls of an object.
        for (int k = 0; k < 506; k++) {
            say.due("the number", x.come(k % 6, 1 + k % 7, k % 2 == 0), k);
            if (k % 100 == 99) {
                x.tick(1);
            }
        }
    }

    private void lostPacketsHaveNumbers() {
        say.sentence(7, "A PACKET comes: its number; NONE if it is LOST (it has a number all the same).");
        LinkQueues x = exactMean(0.5, 1.0, 1.0);
        say.due("the first", x.come(0, 10, false), 0);
        say.due("lost to the mean", x.come(0, 10, false), -1);
        say.due("behind it", x.come(1, 10, false), 2);
        x.link(100.0, 20);
        say.due("lost to a full buffer", x.come(1, 1, false), -1);
        say.due("lost to a full buffer, of a class that would let it go", x.come(0, 1, false), -1);
        x.link(100.0, 21);
        say.due("behind them", x.come(1, 1, false), 5);
    }

    private void refusedPacketsHaveNone() {
        say.sentence(7, "A call that throws changes nothing.");
        LinkQueues x = new LinkQueues();
        say.refused("come(0, 0, true)", ARGUMENT, () -> x.come(0, 0, true));
        say.refused("come(6, 1, true)", ARGUMENT, () -> x.come(6, 1, true));
        say.due("the first number is still 0", x.come(0, 1, true), 0);
        dueCounts("one came", x, 0, 1, 0, 0, 0, 0, 0, 1, 1, 0, 0);
    }

    private void bytesOfOnePacket() {
        say.sentence(7, "1 .. 1500 bytes");
        LinkQueues x = new LinkQueues();
        x.come(3, 1, false);
        x.come(3, 1500, false);
        say.due("both go", x.tick(20), 2);
        dueSent("the greatest", x, 0, 1, 3, 1500, 1, 0);
        dueSent("the least", x, 1, 0, 3, 1, 1, 0);
    }

    // Room

    private void roomForAHundred() {
        say.sentence(7, "All queues have at most 100 PACKETS and LIMIT bytes (1,000,000 at first) together.");
        LinkQueues x = new LinkQueues();
        for (int k = 0; k < 100; k++) {
            say.due("room for the packet " + k, x.come(k % 6, 1, false), k);
        }
        for (int i = 0; i < 6; i++) {
            say.due("no room for one more, of class " + i, x.come(i, 1, true), -1);
            say.due("lost to a full buffer, of class " + i, x.count(i, 2), 1);
        }
        say.due("those that wait of class 0", x.count(0, 6), 17);
        x.link(0.5, 1000000);
        say.due("one goes", x.tick(1), 1);
        say.due("room for one", x.come(5, 1, false), 106);
        say.due("but not for two", x.come(5, 1, false), -1);
    }

    private void roomForAllBytesAtFirst() {
        say.sentence(1, "LIMIT bytes (1,000,000 at first)");
        LinkQueues x = new LinkQueues();
        for (int k = 0; k < 100; k++) {
            say.due("room for 1500 bytes, behind " + k * 1500, x.come(0, 1500, false), k);
        }
        say.due("bytes that wait", x.count(0, 7), 150000);
        say.due("101 packets are too many", x.come(0, 1, false), -1);
    }

    private void roomUpToTheLimit() {
        say.sentence(5, "RATE and LIMIT.");
        LinkQueues x = new LinkQueues();
        x.link(100.0, 2000);
        say.due("room for 1500", x.come(0, 1500, false), 0);
        say.due("no room for 501, of another class", x.come(4, 501, false), -1);
        say.due("room for just 500", x.come(4, 500, false), 2);
        say.due("no room for 1", x.come(5, 1, false), -1);
        x.link(100.0, 2001);
        say.due("room for 1 more", x.come(5, 1, false), 4);
        say.due("and no more", x.come(5, 1, false), -1);
    }

    private void limitOfOneByte() {
        say.sentence(7, "a PACKET for which there is no room (one more than 100, or its bytes above LIMIT) is LOST to a FULL buffer");
        LinkQueues x = new LinkQueues();
        x.link(100.0, 1);
        say.due("two bytes are above LIMIT where nothing waits", x.come(0, 2, false), -1);
        say.due("it is not in the round", x.round(0), -1);
        say.due("one byte is not", x.come(0, 1, false), 1);
        say.due("one more is", x.come(0, 1, false), -1);
        dueCounts("lost to a full buffer", x, 0, 3, 0, 2, 0, 0, 0, 1, 1, 0, 0);
        x.tick(1);
        say.due("room again when it has gone", x.come(1, 1, false), 3);
    }

    private void limitBelowWhatWaits() {
        say.sentence(5, "or its bytes above LIMIT");
        LinkQueues x = new LinkQueues();
        comeMany(x, 0, 3, 100);
        x.link(100.0, 1);
        say.due("what waits stays", x.count(0, 6), 3);
        say.due("but none comes", x.come(1, 1, false), -1);
        say.due("all go", x.tick(5), 3);
        say.due("then one comes", x.come(1, 1, false), 4);
    }

    private void fullBufferBeforeTheMean() {
        say.sentence(7, "is LOST to a FULL buffer; its class does not hear of it. Else a class of the KIND MEAN");
        LinkQueues x = exactMean(0.5, 1.0, 1.0);
        x.come(0, 10, false);
        x.link(100.0, 10);
        x.come(0, 1, false);
        dueCounts("full, and the mean would let it go", x, 0, 2, 0, 1, 0, 0, 0, 1, 10);
        x.link(100.0, 11);
        x.come(0, 1, false);
        dueCounts("not full", x, 0, 3, 0, 1, 1, 0, 0, 1, 10);
    }

    private void fullBufferIsNotHeardOf() {
        say.sentence(7, "its class does not hear of it");
        for (double coin : new double[] {0.34, 0.33}) {
            LinkQueues x = exactMean(0.0, 4.0, 1.0);
            x.come(0, 10, false);
            x.coin(coin);
            x.link(100.0, 10);
            x.come(0, 1, true);
            say.due("no average, though one waits", x.average(0), 0.0);
            x.link(100.0, 1000);
            // COUNT is 1 now, not 2: p is 0.25, and p / d is 0.25 / 0.75; the coin is not used yet.
            say.due("a coin of " + coin, x.come(0, 1, false), coin < 1.0 / 3.0 ? -1 : 2);
            say.due("the average of one packet", x.average(0), 1.0);
        }
    }

    private void fullBufferIsNotHeardOfByAnEmptyQueue() {
        say.sentence(10, "its class does not hear of it");
        LinkQueues x = new LinkQueues();
        x.kind(0, 1, 1500);
        x.mean(0, 500.0, 1000.0, 1.0, 0.5);
        comeMany(x, 0, 2, 100);
        x.tick(1);
        say.due("empty since 1", x.count(0, 6), 0);
        x.tick(2);
        x.link(100.0, 1);
        x.come(0, 2, false);
        say.due("it does not become less", x.average(0), 0.5);
        x.link(100.0, 1000);
        x.come(0, 2, false);
        say.due("and the two ticks count still", x.average(0), 0.125);
    }

    // Who looks

    private void firstComeFirst() {
        say.sentence(13, "CLASSES are 0 .. 5, each with a queue of PACKETS, first come first; a QUANTUM of 1 .. 3000 bytes (1500 at first) and a KIND");
        LinkQueues x = new LinkQueues();
        x.link(10000.0, 1000000);
        int[] classes = {2, 0, 0, 2, 2, 0};
        for (int k = 0; k < classes.length; k++) {
            x.come(classes[k], 1500 - k, false);
        }
        x.tick(1);
        dueNumbers("of class 0 1, 2, 5, of class 2 0, 3, 4, by turns", x, 5, 4, 2, 3, 1, 0);
    }

    private void onlyTheMeanLooks() {
        say.sentence(7, "Else a class of the KIND MEAN looks at it");
        for (int kind : new int[] {0, 2}) {
            LinkQueues x = new LinkQueues();
            x.mean(0, 0.0, 0.5, 1.0, 1.0);
            x.kind(0, kind, 1500);
            x.coin(0.0);
            for (int k = 0; k < 100; k++) {
                say.due("kind " + kind + " lets all in", x.come(0, 1, true), k);
            }
            say.due("kind " + kind + " reckons no average", x.average(0), 0.0);
            say.due("kind " + kind + " marks none", x.count(0, 5), 0);
            say.due("kind " + kind + " uses no coin", coinsThatWaited(x), 1);
        }
        LinkQueues mean = exactMean(0.0, 0.5, 1.0);
        mean.come(0, 1, true);
        say.due("kind 1 looks", mean.come(0, 1, true), -1);
    }

    private void lostToTheMeanIsInNoQueue() {
        say.sentence(7, "if it lets it go, it is LOST to the MEAN, else it is last in its queue.");
        LinkQueues x = exactMean(0.5, 1.5, 1.0);
        tellCoins(x, 0.9);
        x.come(0, 10, false);
        say.due("not hit", x.come(0, 20, false), 1);
        x.mean(0, 0.5, 2.0, 1.0, 1.0);
        say.due("at HIGH", x.come(0, 30, false), -1);
        dueCounts("two wait", x, 0, 3, 0, 0, 1, 0, 0, 2, 30);
        x.tick(1);
        x.come(1, 5, false);
        say.due("an average of 2.0 and an empty queue", x.come(0, 10, false), -1);
        dueRound("a lost one does not bring its class into the round", x, 1);
        x.tick(1);
        dueNumbers("first come first", x, 3, 1, 0);
    }

    // Coins

    private void coinsUpToSixtyFour() {
        say.sentence(6, "COINS are told beforehand, up to 64 that wait");
        LinkQueues x = exactMean(0.0, 1000.0, 0.001);
        for (int k = 1; k <= 64; k++) {
            say.due("coin " + k, x.coin(0.9), k);
        }
        say.refused("coin 65", STATE, () -> x.coin(0.9));
        for (int k = 0; k < 64; k++) {
            say.due("none of 64 is below p / d", x.come(0, 1, false), k);
        }
        say.due("all were used", coinsThatWaited(x), 0);
    }

    /** Makes p / d just 0.5 for the next packet of class 0, in whose queue so many wait, one at least. */
    private static void evenChance(LinkQueues x, int waiting) {
        x.kind(0, 1, 1500);
        x.mean(0, waiting - 0.5, waiting + 0.5, 1.0, 1.0);
    }

    private void coinsGoRound() {
        say.sentence(6, "each is used once (only where one is needed), the first told first");
        LinkQueues x = new LinkQueues();
        for (int k = 0; k < 40; k++) {
            x.coin(coinOfTheRow(k));
        }
        x.come(0, 1, false);
        int waiting = 1;
        // 140 coins in all, of which 41 wait at most: whatever holds 64 is gone round twice.
        for (int k = 0; k < 100; k++) {
            evenChance(x, waiting);
            boolean stays = x.come(0, 1, false) >= 0;
            waiting += stays ? 1 : 0;
            say.isTrue("the coin " + k + " is " + coinOfTheRow(k), stays == coinOfTheRow(k) >= 0.5);
            say.due("40 wait again", x.coin(coinOfTheRow(40 + k)), 40);
        }
    }

    private static double coinOfTheRow(int k) {
        return k % 3 == 0 ? 0.25 : 0.75;
    }

    private void coinsAreUsedWhereOneIsNeeded() {
        say.sentence(6, "(only where one is needed)");
        LinkQueues x = exactMean(0.5, 1.0, 1.0);
        x.come(0, 10, false);
        say.due("not below LOW", coinsThatWaited(x), 0);
        x.come(0, 10, false);
        say.due("not at HIGH", coinsThatWaited(x), 1);
        x.mean(0, 0.0, 10.0, 1.0, 1.0);
        x.come(0, 10, false);
        say.due("where COUNT is 1 and p is 0.1", coinsThatWaited(x), 1);
        x.mean(0, 1.0, 3.0, 1.0, 1.0);
        x.come(0, 10, false);
        say.due("not where COUNT is 2 and p is 0.5", coinsThatWaited(x), 2);
        x.link(100.0, 20);
        x.come(0, 10, false);
        say.due("not where the buffer is full", coinsThatWaited(x), 3);
        x.link(100.0, 1000);
        x.mean(0, 2.0, 3.0, 1.0, 1.0);
        x.come(0, 10, false);
        say.due("at LOW, where p is 0.0", coinsThatWaited(x), 3);
    }

    private void coinsOfNobody() {
        say.sentence(6, "without one it is 0.5.");
        LinkQueues x = new LinkQueues();
        x.come(0, 1, false);
        evenChance(x, 1);
        say.due("not below a p / d of 0.5", x.come(0, 1, false), 1);
        evenChance(x, 2);
        x.coin(0.25);
        say.due("the one that was told", x.come(0, 1, false), -1);
        evenChance(x, 2);
        say.due("it is used up: 0.5 again", x.come(0, 1, false), 3);
        x.kind(0, 1, 1500);
        x.mean(0, 2.5, Math.nextDown(3.5), 1.0, 1.0);
        say.due("below a p / d just above 0.5", x.come(0, 1, false), -1);
    }

    private void coinsAreCounted() {
        say.sentence(6, "A COIN more: how many wait.");
        LinkQueues x = new LinkQueues();
        say.due("the first", x.coin(0.9), 1);
        say.due("the second", x.coin(0.9), 2);
        x.come(0, 1, false);
        evenChance(x, 1);
        x.come(0, 1, false);
        say.due("one of two was used", x.coin(0.9), 2);
        for (int waiting = 2; waiting < 5; waiting++) {
            evenChance(x, waiting);
            x.come(0, 1, false);
        }
        say.due("the last was used, and none where there was none", x.coin(0.9), 1);
    }
}
