/** The boundary cases of the kind DELAY: when a packet is late, when it is hit, and by which times. */
final class DelayBoundaries extends Boundaries {
    /** Just above 3.0, but so much that its sums with 2 and with 5 are above 5.0 and 8.0. */
    private static final double MORE_THAN_3 = 3.0 + Math.ulp(8.0);

    DelayBoundaries(Sentences say) {
        super(say);
    }

    @Override
    void test() {
        all(
            this::firstTarget, this::firstInterval, this::firstTimes, this::waitSinceItCame,
            this::neitherLateNorDropping, this::waitAtTarget, this::waitBelowTargetForgetsAbove, this::lastInItsQueue,
            this::lastInItsQueueForgetsAbove, this::longWaitOfTheFirst, this::leastInterval, this::clockAtAbove,
            this::dropsNoMore, this::clockBelowNext, this::clockAtNext, this::nextFarBehind, this::countLessLastOfOne,
            this::countLessLastOfTwo, this::countLessLastIsNotBelowZero, this::sixteenIntervals,
            this::lateForTheFirstTime, this::markableIsNeverLost, this::markedOnce, this::lostOnesLeaveDeficit,
            this::nextOneHasTooManyBytes, this::nextOneIsTheLast, this::rootOfSmallCounts, this::rootOfAGreatCount,
            this::nextOnlyWhileItDrops, this::toldOfOneClass, this::toldWhileItDrops, this::onlyTheDelayHits,
            this::keptWhenTheKindChanges, this::forgottenWhenTheKindChanges
        );
    }

    /** Class 0 of the kind DELAY: of its packets one is sent at each tick from 1 on, with a WAIT of just that tick. */
    private static LinkQueues steady(double target, double interval, int many) {
        LinkQueues x = new LinkQueues();
        x.kind(0, 2, 1500);
        x.delay(0, target, interval);
        // 101 bytes take 1.01 ticks: two at one tick are too many, until a hundred have gone.
        comeMany(x, 0, many, 101);
        return x;
    }

    // At first

    private void firstTarget() {
        say.sentence(1, "DELAY has TARGET and INTERVAL, doubles (5.0 and 100.0 at first)");
        // One goes at 1 and at each fifth tick: 5 is not below TARGET, and makes ABOVE 105.0.
        LinkQueues x = new LinkQueues();
        x.kind(0, 2, 1500);
        x.link(1.0, 1000000);
        comeMany(x, 0, 100, 5);
        x.tick(104);
        say.due("at 104", x.next(0), -1.0);
        x.tick(1);
        say.due("at 105", x.next(0), 205.0);
        LinkQueues y = new LinkQueues();
        y.kind(0, 2, 1500);
        y.link(1.0, 1000000);
        comeMany(y, 0, 91, 4);
        // One goes at 1 and at each fourth tick: 4 is below TARGET, and 8 makes ABOVE 108.0.
        y.tick(107);
        say.due("at 107", y.next(0), -1.0);
        y.tick(1);
        say.due("at 108", y.next(0), 208.0);
    }

    private void firstInterval() {
        say.sentence(1, "(5.0 and 100.0 at first)");
        for (int i = 0; i < 6; i++) {
            LinkQueues x = new LinkQueues();
            x.kind(i, 2, 1500);
            x.link(1.0, 1000000);
            comeMany(x, i, 100, 5);
            x.tick(105);
            say.due("INTERVAL of class " + i, x.next(i) - x.clock(), 100.0);
        }
    }

    private void firstTimes() {
        say.sentence(1, "a time ABOVE (none), whether it DROPS (not), a time NEXT, a COUNT (0), and LAST, what COUNT was when it began to drop last (0).");
        LinkQueues x = steady(1.0, 1.0, 9);
        say.due("it does not drop", x.next(0), -1.0);
        x.tick(1);
        say.due("ABOVE was none: the first is not late", x.count(0, 4), 0);
        x.tick(1);
        say.due("COUNT less LAST was 0, so COUNT is 1", x.next(0), 3.0);
    }

    // Late or not

    private void waitSinceItCame() {
        say.sentence(13, "When a PACKET is taken out of its queue, at the CLOCK t, its WAIT being t less its time of coming");
        for (int kind = 0; kind <= 2; kind++) {
            LinkQueues x = new LinkQueues();
            x.kind(0, kind, 1500);
            x.come(0, 200, false);
            x.tick(1);
            dueSent("the least WAIT, of the kind " + kind, x, 0, 0, 0, 200, 1, 0);
            x.come(0, 1500, false);
            x.come(0, 1, false);
            x.tick(500);
            dueSent("when FREE was 17.0, of the kind " + kind, x, 0, 2, 0, 1, 16, 0);
            dueSent("when FREE was 2.0, of the kind " + kind, x, 1, 1, 0, 1500, 1, 0);
        }
    }

    private void neitherLateNorDropping() {
        say.sentence(8, "Else it is CHOSEN.");
        LinkQueues x = steady(2.0, 3.0, 20);
        for (int t = 1; t <= 4; t++) {
            say.due("below TARGET or before ABOVE, at " + t, x.tick(1), 1);
        }
        dueNumbers("all went", x, 3, 2, 1, 0);
        dueCounts("none is lost", x, 0, 20, 4, 0, 0, 0, 0, 16);
    }

    private void waitAtTarget() {
        say.sentence(4, "if WAIT is below TARGET, or no PACKET stays behind it, ABOVE is none, and it is not LATE");
        LinkQueues at = steady(2.0, 3.0, 20);
        at.tick(4);
        say.due("TARGET 2.0, at 4", at.next(0), -1.0);
        at.tick(1);
        say.due("at 2 WAIT was not below it: late at 5", at.next(0), 8.0);
        LinkQueues more = steady(Math.nextUp(2.0), 3.0, 20);
        more.tick(5);
        say.due("TARGET just above 2.0, at 5", more.next(0), -1.0);
        more.tick(1);
        say.due("at 3 WAIT was not below it: late at 6", more.next(0), 9.0);
    }

    private void waitBelowTargetForgetsAbove() {
        say.sentence(4, "if WAIT is below TARGET");
        LinkQueues at = steady(2.0, 3.0, 20);
        at.tick(3);
        at.delay(0, 4.0, 4.0);
        at.tick(1);
        at.delay(0, 2.0, 3.0);
        at.tick(1);
        say.due("a WAIT of 4 is not below 4.0: ABOVE stays 5.0", at.next(0), 8.0);
        LinkQueues below = steady(2.0, 3.0, 20);
        below.tick(3);
        below.delay(0, Math.nextUp(4.0), 5.0);
        below.tick(1);
        below.delay(0, 2.0, 3.0);
        below.tick(3);
        say.due("it is below just more: ABOVE is 8.0 from 5 on", below.next(0), -1.0);
        below.tick(1);
        say.due("late at 8", below.next(0), 11.0);
    }

    private void lastInItsQueue() {
        say.sentence(4, "or no PACKET stays behind it");
        LinkQueues four = steady(1.0, 1.0, 4);
        say.due("of four three go", four.tick(3), 3);
        dueNumbers("1 is lost at 2, and 3 is the last at 3", four, 3, 2, 0);
        LinkQueues five = steady(1.0, 1.0, 5);
        say.due("of five three go", five.tick(3), 3);
        dueNumbers("1 is lost at 2, and 3 at 3", five, 4, 2, 0);
        LinkQueues alone = new LinkQueues();
        alone.kind(0, 2, 1500);
        alone.delay(0, 1.0, 1.0);
        alone.link(0.125, 1000000);
        alone.come(1, 125, false);
        alone.tick(1);
        alone.come(0, 1, false);
        say.due("one alone goes, however late", alone.tick(1000), 1);
        dueSent("it", alone, 0, 1, 0, 1, 999, 0);
    }

    private void lastInItsQueueForgetsAbove() {
        say.sentence(4, "ABOVE is none, and it is not LATE");
        LinkQueues x = steady(1.0, 1.0, 2);
        x.tick(2);
        comeMany(x, 0, 3, 101);
        x.tick(1);
        say.due("ABOVE was none at 3", x.next(0), -1.0);
        x.tick(1);
        say.due("it was 4.0 from 3 on", x.next(0), -1.0);
        dueNumbers("3 was lost at 4, and 4 was the last", x, 4, 2, 1, 0);
        dueCounts("in all", x, 0, 5, 4, 0, 0, 1);
    }

    private void longWaitOfTheFirst() {
        say.sentence(4, "else if ABOVE is none, ABOVE is t + INTERVAL, and it is not LATE");
        LinkQueues x = new LinkQueues();
        x.kind(0, 2, 1500);
        x.delay(0, 1.0, 1.0);
        x.link(0.125, 1000000);
        x.come(1, 125, false);
        comeMany(x, 0, 4, 100);
        x.tick(999);
        x.link(100.0, 1000000);
        x.tick(1);
        dueSent("a WAIT of 1000 is not late", x, 0, 1, 0, 100, 1000, 0);
        x.tick(1);
        say.due("at 1001, which ABOVE is, the next is", x.next(0), 1002.0);
        dueNumbers("at 1001", x, 3, 1, 0);
    }

    private void leastInterval() {
        say.sentence(4, "ABOVE is t + INTERVAL, and it is not LATE; else it is LATE if t is not below ABOVE.");
        LinkQueues x = new LinkQueues();
        x.kind(0, 2, 1500);
        x.delay(0, Double.MIN_VALUE, Double.MIN_VALUE);
        x.link(10000.0, 1000000);
        comeMany(x, 0, 4, 1);
        // ABOVE and NEXT are 1.0, as so small an INTERVAL does not make a double greater.
        say.due("all in one tick", x.tick(1), 2);
        dueNumbers("the first is not late, the last has none behind it", x, 3, 0);
        say.due("those between them are", x.count(0, 4), 2);
    }

    private void clockAtAbove() {
        say.sentence(4, "else it is LATE if t is not below ABOVE.");
        LinkQueues at = steady(2.0, 3.0, 20);
        at.tick(4);
        say.due("at 4", at.count(0, 4), 0);
        at.tick(1);
        say.due("ABOVE is 5.0, at 5", at.count(0, 4), 1);
        LinkQueues more = steady(2.0, MORE_THAN_3, 20);
        more.tick(5);
        say.due("ABOVE is just above 5.0, at 5", more.count(0, 4), 0);
        more.tick(1);
        say.due("at 6", more.count(0, 4), 1);
    }

    // It drops

    private void dropsNoMore() {
        say.sentence(11, "If it DROPS: if the PACKET is not LATE it DROPS no more, and the PACKET is CHOSEN");
        LinkQueues late = steady(2.0, 3.0, 20);
        late.tick(7);
        late.delay(0, 8.0, 8.0);
        late.tick(1);
        say.due("a WAIT of 8 is not below 8.0: it drops on", late.next(0), 8.0 + 8.0 / Model.root(2));
        say.due("lost", late.count(0, 4), 2);
        LinkQueues x = steady(2.0, 3.0, 20);
        x.tick(7);
        x.delay(0, Math.nextUp(8.0), 9.0);
        x.tick(1);
        say.due("it is below just more", x.next(0), -1.0);
        say.due("and none is lost, though NEXT is 8.0", x.count(0, 4), 1);
    }

    private void clockBelowNext() {
        say.sentence(11, "else if t is below NEXT it is CHOSEN");
        LinkQueues x = steady(2.0, 3.0, 20);
        x.tick(4);
        x.delay(0, 2.0, MORE_THAN_3);
        x.tick(1);
        say.due("NEXT is just above 8.0", x.next(0), Math.nextUp(8.0));
        x.tick(3);
        say.due("at 8 t is below it", x.count(0, 4), 1);
        x.tick(1);
        say.due("at 9 it is not", x.count(0, 4), 2);
    }

    private void clockAtNext() {
        say.sentence(11, "else COUNT is one more, NEXT becomes NEXT + INTERVAL / ROOT(COUNT), and it HITS.");
        LinkQueues x = steady(2.0, 3.0, 30);
        x.tick(7);
        say.due("at 7", x.next(0), 8.0);
        x.tick(1);
        double next = 8.0 + 3.0 / Model.root(2);
        say.due("at 8, which NEXT is", x.next(0), next);
        say.due("hit", x.count(0, 4), 2);
        x.tick(2);
        say.due("at 10 t is below it", x.next(0), next);
        x.tick(1);
        say.due("at 11 from NEXT on, not from t on", x.next(0), next + 3.0 / Model.root(3));
    }

    private void nextFarBehind() {
        say.sentence(11, "else if t is below NEXT it is CHOSEN; else COUNT is one more, NEXT becomes NEXT + INTERVAL / ROOT(COUNT), and it HITS.");
        LinkQueues x = steady(2.0, 3.0, 40);
        x.tick(5);
        x.link(5.05, 1000000);
        // The one that goes at 6 keeps the link until 25.05.
        x.tick(20);
        say.due("until 25", x.count(0, 4), 1);
        x.link(100.0, 1000000);
        x.tick(1);
        double next = 8.0;
        int count = 1;
        while (next <= 26.0) {
            count++;
            next = next + 3.0 / Model.root(count);
        }
        say.due("at 26 all are lost until NEXT is above 26", x.count(0, 4), count);
        say.due("they are many", count, 18);
        say.due("NEXT", x.next(0), next);
        say.due("one went", x.count(0, 1), 7);
    }

    // It begins to drop

    private void lateForTheFirstTime() {
        say.sentence(11, "If it does not: if it is LATE, it DROPS from now on");
        LinkQueues x = steady(2.0, 3.0, 20);
        x.tick(4);
        say.due("not before", x.next(0), -1.0);
        x.tick(1);
        say.due("at 5", x.next(0), 8.0);
        say.due("the late one is lost", x.count(0, 4), 1);
        dueNumbers("and the one behind it goes", x, 5, 3, 2, 1, 0);
    }

    /** So many have come at 0, of which the last is sent at lastAt, and twenty more then. */
    private static LinkQueues droppedOnce(int many, int lastAt) {
        LinkQueues x = steady(2.0, 3.0, many);
        x.tick(lastAt);
        comeMany(x, 0, 20, 101);
        return x;
    }

    private void countLessLastOfOne() {
        say.sentence(11, "COUNT is COUNT - LAST if that is above 1");
        // Lost at 5 and 8: COUNT is 2, LAST is 1. Then ABOVE is 14.0 from 11 on.
        LinkQueues x = droppedOnce(11, 9);
        say.due("it dropped two, and drops no more", x.next(0), -1.0);
        say.due("two", x.count(0, 4), 2);
        x.tick(4);
        say.due("at 13", x.next(0), -1.0);
        x.tick(1);
        say.due("at 14 COUNT is 1", x.next(0), 17.0);
    }

    private void countLessLastOfTwo() {
        say.sentence(11, "LAST is COUNT then, NEXT is t + INTERVAL / ROOT(COUNT), and it HITS.");
        // Lost at 5, 8 and 11: COUNT is 3, LAST is 1. Then ABOVE is 16.0 from 13 on.
        LinkQueues x = droppedOnce(14, 11);
        say.due("three", x.count(0, 4), 3);
        x.tick(5);
        double next = 16.0 + 3.0 / Model.root(2);
        say.due("at 16 COUNT is 2", x.next(0), next);
        x.tick(3);
        say.due("at 19 COUNT is 3", x.next(0), next + 3.0 / Model.root(3));
    }

    private void countLessLastIsNotBelowZero() {
        say.sentence(11, "LAST is COUNT then");
        LinkQueues x = steady(2.0, 3.0, 14);
        x.tick(11);
        comeMany(x, 0, 7, 101);
        // ABOVE is 16.0 from 13 on: one is lost at 16, COUNT and LAST are 2, and the last of seven goes at 17.
        x.tick(6);
        say.due("it drops no more at 17", x.next(0), -1.0);
        say.due("four were lost", x.count(0, 4), 4);
        comeMany(x, 0, 20, 101);
        // ABOVE is 22.0 from 19 on.
        x.tick(5);
        say.due("at 22 COUNT - LAST is 0, and COUNT is 1", x.next(0), 25.0);
        LinkQueues y = steady(2.0, 3.0, 14);
        y.tick(11);
        comeMany(y, 0, 10, 101);
        y.tick(8);
        say.due("five were lost until 19", y.count(0, 4), 5);
        say.due("it drops no more at 19", y.next(0), -1.0);
        comeMany(y, 0, 20, 101);
        y.tick(5);
        say.due("at 24 COUNT is 3 - 2, not 3 - 1", y.next(0), 27.0);
    }

    private void sixteenIntervals() {
        say.sentence(11, "and t - NEXT is below 16.0 * INTERVAL, else 1");
        double next = 8.0 + 3.0 / Model.root(2) + 3.0 / Model.root(3);
        double sixteenth = (16.0 - next) / 16.0;
        double more = Math.nextUp(sixteenth);
        say.due("just 16 times: COUNT is 1", droppedAgain(sixteenth).next(0), 16.0 + sixteenth);
        say.due("just below: COUNT is 2", droppedAgain(more).next(0), 16.0 + more / Model.root(2));
    }

    /** It begins to drop at 16, with another INTERVAL. */
    private static LinkQueues droppedAgain(double interval) {
        LinkQueues x = droppedOnce(14, 11);
        x.tick(4);
        x.delay(0, 0.125, interval);
        x.tick(1);
        return x;
    }

    // Hit

    private void markableIsNeverLost() {
        say.sentence(13, "A PACKET that is HIT and MARKABLE is CHOSEN, MARKED");
        LinkQueues x = new LinkQueues();
        x.kind(0, 2, 1500);
        x.delay(0, 1.0, 1.0);
        for (int k = 0; k < 5; k++) {
            x.come(0, 101, k < 3);
        }
        x.tick(1);
        dueSent("not hit", x, 0, 0, 0, 101, 1, 0);
        x.tick(1);
        dueSent("hit, the first time", x, 0, 1, 0, 101, 2, 1);
        say.due("NEXT", x.next(0), 3.0);
        x.tick(1);
        dueSent("hit at NEXT", x, 0, 2, 0, 101, 3, 1);
        dueCounts("until 3", x, 0, 5, 3, 0, 0, 0, 2, 2);
        x.tick(1);
        dueSent("the next is not markable and lost", x, 0, 4, 0, 101, 4, 0);
        dueCounts("until 4", x, 0, 5, 4, 0, 0, 1, 2, 0);
    }

    private void markedOnce() {
        say.sentence(9, "5 MARKED (each once)");
        LinkQueues x = exactMean(0.5, 1.5, 1.0);
        x.delay(0, 1.0, 1.0);
        x.come(0, 101, false);
        x.coin(0.0);
        x.come(0, 101, true);
        say.due("marked by the mean", x.count(0, 5), 1);
        x.kind(0, 2, 1500);
        x.come(0, 101, true);
        x.come(0, 101, true);
        x.come(0, 101, false);
        x.tick(2);
        say.due("it drops", x.next(0), 3.0);
        dueSent("hit and marked already", x, 0, 1, 0, 101, 2, 1);
        say.due("not marked once more", x.count(0, 5), 1);
        x.tick(1);
        dueSent("hit and not marked yet", x, 0, 2, 0, 101, 3, 1);
        say.due("marked", x.count(0, 5), 2);
    }

    private void lostOnesLeaveDeficit() {
        say.sentence(9, "PACKETS that are taken out and LOST are not CHOSEN, and do not lessen DEFICIT; the next one is looked at.");
        LinkQueues x = threeWithTheThirdOf(200);
        dueNumbers("the third has just as many bytes", x, 2, 0);
        dueCounts("the second is lost", x, 0, 4, 2, 0, 0, 1, 0, 1, 10, 300, 0);
        dueRound("the turn goes on", x, 0, 1);
    }

    private void nextOneHasTooManyBytes() {
        say.sentence(14, "another one is LOST to the DELAY, and the next one is looked at as all are (if it has more bytes than DEFICIT it stays, and the TURN ends).");
        LinkQueues x = threeWithTheThirdOf(201);
        dueNumbers("the third stays, and another class goes", x, 4, 0);
        dueCounts("the second is lost all the same", x, 0, 4, 1, 0, 0, 1, 0, 2, 211, 100, 200);
        dueRound("the turn is over", x, 0);
    }

    /** With a QUANTUM of 300 the first of 100 bytes is sent at 1, the second of 150 is hit at 2. */
    private static LinkQueues threeWithTheThirdOf(int bytes) {
        LinkQueues x = new LinkQueues();
        x.kind(0, 2, 300);
        x.delay(0, 1.0, 1.0);
        x.link(50.0, 1000000);
        x.come(0, 100, false);
        x.come(0, 150, false);
        x.come(0, bytes, false);
        x.come(0, 10, false);
        x.come(1, 10, false);
        x.tick(2);
        return x;
    }

    private void nextOneIsTheLast() {
        say.sentence(9, "the next one is looked at as all are");
        LinkQueues x = steady(1.0, 1.0, 3);
        x.tick(1);
        say.due("at 2 one goes", x.tick(1), 1);
        dueNumbers("the second is lost, the third is the last", x, 2, 0);
        say.due("not late, so it drops no more", x.next(0), -1.0);
        dueRound("its queue is empty", x);
        say.due("its DEFICIT", x.count(0, 9), 0);
    }

    // ROOT

    private void rootOfSmallCounts() {
        say.sentence(11, "ROOT(n) is r after twenty times r becoming (r + n / r) / 2.0, from r = n on.");
        // The double nearest to the root of 2 is 1.4142135623730951, but r does not come to it.
        double[] roots = {1.0, 1.414213562373095, 1.7320508075688772, 2.0};
        for (int count = 1; count <= 4; count++) {
            LinkQueues x = steady(1.0, 1.0, 20);
            x.tick(count);
            double before = count == 1 ? count + 1 : x.next(0);
            x.delay(0, 1.0, 10000.0);
            x.tick(1);
            say.due("ROOT(" + count + ")", x.next(0), before + 10000.0 / roots[count - 1]);
        }
    }

    private void rootOfAGreatCount() {
        say.sentence(11, "after twenty times r becoming (r + n / r) / 2.0");
        LinkQueues x = new LinkQueues();
        x.kind(0, 2, 1500);
        x.delay(0, 0.0009765625, 0.0009765625);
        // Two go at 1, and then one each tick, which is hit: at t COUNT is t - 1.
        for (int k = 0; k < 3; k++) {
            for (int n = 0; n < (k == 0 ? 100 : 85); n++) {
                x.come(0, 100, true);
            }
            x.tick(85);
        }
        say.due("all were hit but the first two", x.count(0, 5), 254);
        double before = x.next(0);
        x.delay(0, 1.0, 10000.0);
        x.tick(1);
        say.due("ROOT(255)", x.next(0), before + 10000.0 / Model.root(255));
    }

    // What is told, asked and forgotten

    private void nextOnlyWhileItDrops() {
        say.sentence(11, "A class's NEXT, if it DROPS; else -1.0.");
        LinkQueues x = steady(2.0, 3.0, 11);
        for (int t = 1; t <= 9; t++) {
            x.tick(1);
            say.due("at " + t, x.next(0), t < 5 || t == 9 ? -1.0 : t < 8 ? 8.0 : 8.0 + 3.0 / Model.root(2));
            say.due("of another class", x.next(1), -1.0);
        }
    }

    private void toldOfOneClass() {
        say.sentence(4, "TARGET and INTERVAL of a class.");
        LinkQueues x = new LinkQueues();
        x.kind(0, 2, 1500);
        x.kind(1, 2, 1500);
        x.delay(1, 1.0, 1.0);
        comeMany(x, 0, 20, 1);
        comeMany(x, 1, 20, 1);
        x.link(1.0, 1000000);
        x.tick(30);
        say.due("the other class keeps its own", x.count(0, 4), 0);
        say.due("this one lost some", x.count(1, 4) > 0 ? 1 : 0, 1);
    }

    private void toldWhileItDrops() {
        say.sentence(4, "TARGET and INTERVAL of a class.");
        LinkQueues x = steady(2.0, 3.0, 20);
        x.tick(4);
        x.delay(0, 2.0, 50.0);
        x.tick(1);
        say.due("ABOVE is 5.0 as it was, and INTERVAL is 50.0", x.next(0), 55.0);
        x.delay(0, 2.0, 3.0);
        say.due("NEXT stays", x.next(0), 55.0);
    }

    private void onlyTheDelayHits() {
        say.sentence(2, "A class has this KIND from now on");
        for (int kind = 0; kind <= 2; kind++) {
            LinkQueues x = steady(1.0, 1.0, 20);
            x.tick(4);
            say.due("lost at 2, 3 and 4", x.count(0, 4), 3);
            x.kind(0, kind, 1500);
            x.tick(4);
            say.due("of the kind " + kind + " it drops", x.next(0) == -1.0 ? 0 : 1, kind == 2 ? 1 : 0);
            say.due("it loses more", x.count(0, 4) > 3 ? 1 : 0, kind == 2 ? 1 : 0);
        }
    }

    private void keptWhenTheKindChanges() {
        say.sentence(2, "what mean and delay told, and its PACKETS, stay");
        LinkQueues x = new LinkQueues();
        x.delay(0, 2.0, 3.0);
        x.kind(0, 1, 1500);
        comeMany(x, 0, 8, 101);
        x.kind(0, 2, 1500);
        x.tick(5);
        say.due("TARGET 2.0 and INTERVAL 3.0 still", x.next(0), 8.0);
        int waiting = x.count(0, 6);
        x.kind(0, 2, 1500);
        say.due("its packets", x.count(0, 6), waiting);
        say.due("those that were lost", x.count(0, 4), 1);
    }

    private void forgottenWhenTheKindChanges() {
        say.sentence(2, "all else that its KINDS have is as at first");
        LinkQueues above = steady(2.0, 3.0, 20);
        above.tick(4);
        above.kind(0, 2, 1500);
        above.tick(1);
        say.due("ABOVE was 5.0 and is none", above.next(0), -1.0);
        above.tick(3);
        say.due("it is 8.0 from 5 on", above.next(0), 11.0);
        LinkQueues drops = steady(2.0, 3.0, 30);
        drops.tick(11);
        drops.kind(0, 2, 1500);
        say.due("it drops not", drops.next(0), -1.0);
        drops.tick(4);
        // COUNT was 3 and LAST 1; with them COUNT would be 2.
        say.due("COUNT and LAST are 0: COUNT is 1", drops.next(0), 18.0);
    }
}
