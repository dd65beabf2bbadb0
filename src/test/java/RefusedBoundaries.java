import java.util.function.Consumer;

/** Numbers too small and too large, and what a call that throws leaves as it was. */
final class RefusedBoundaries extends Boundaries {
    private static final String CLASSES = "CLASSES are 0 .. 5";
    private static final String NO_NUMBER = "IllegalArgument: also where a number is none of those told here (a double that is none, too).";
    private static final String CHANGES_NOTHING = "A call that throws changes nothing.";

    private static final int LEAST = Integer.MIN_VALUE;
    private static final int GREATEST = Integer.MAX_VALUE;
    private static final double TINY = Double.MIN_VALUE;
    private static final double NAN = Double.NaN;
    private static final double ENDLESS = Double.POSITIVE_INFINITY;

    RefusedBoundaries(Sentences say) {
        super(say);
    }

    @Override
    void test() {
        all(
            this::kindOfNoClass, this::kindIsNone, this::kindWithTheLeastAndTheGreatestQuantum, this::kindThatThrows,
            this::meanOfNoClass, this::meanLowAndHigh, this::meanTop, this::meanWeight, this::meanOfNoNumber,
            this::meanThatThrows, this::delayOfNoClass, this::delayTargetAndInterval, this::delayOfNoNumber,
            this::delayThatThrows, this::linkRate, this::linkLimit, this::linkOfNoNumber, this::linkThatThrows,
            this::coinTooSmallAndTooLarge, this::coinOfNoNumber, this::coinAboveSixtyFour, this::coinThatThrows,
            this::comeOfNoClass, this::comeWithTheLeastAndTheMostBytes, this::comeThatThrows,
            this::tickTooFewAndTooMany, this::tickThatThrows, this::countOfNoClass, this::countOfAnotherWhat,
            this::countThatThrows, this::averageOfNoClass, this::averageThatThrows, this::nextOfNoClass,
            this::nextThatThrows, this::sentOfAnotherWhat, this::sentThatThrows
        );
    }

    private void refuses(String call, Runnable wrong) {
        say.refused(call, ARGUMENT, wrong);
    }

    /** The call throws, and the object goes on as its twin, which was not asked it. */
    private void changesNothing(String call, Consumer<LinkQueues> wrong) {
        LinkQueues x = busy();
        LinkQueues twin = busy();
        say.isTrue("class 1 of the busy object drops", x.next(1) > 0.0);
        say.refused(call, ARGUMENT, () -> wrong.accept(x));
        say.due(call + " and what came then", goOn(x), goOn(twin));
    }

    /** Class 0 looks at packets, class 1 drops, class 2 needs two turns for a packet, and coins wait. */
    private static LinkQueues busy() {
        LinkQueues x = new LinkQueues();
        x.kind(0, 1, 700);
        x.mean(0, 0.5, 9.0, 0.5, 0.5);
        x.kind(1, 2, 700);
        x.delay(1, 1.0, 1.0);
        x.kind(2, 0, 150);
        x.link(150.0, 20000);
        tellCoins(x, 0.9, 0.05, 0.8, 0.2, 0.7, 0.1, 0.9, 0.3, 0.05, 0.6, 0.2, 0.7, 0.4);
        for (int step = 0; step < 14; step++) {
            x.come(0, 100, step % 2 == 0);
            x.come(1, 150, step % 5 == 0);
            x.come(2, 200, false);
            x.tick(1);
        }
        return x;
    }

    private static String goOn(LinkQueues x) {
        StringBuilder answers = new StringBuilder("coin " + x.coin(0.3));
        for (int step = 0; step < 10; step++) {
            answers.append("\ncome ").append(x.come(0, 100, step % 2 == 0)).append(' ').append(x.come(1, 150, false));
            answers.append(' ').append(x.come(2, 200, true)).append(", tick ").append(x.tick(1));
            answers.append(", average ").append(x.average(0)).append(", next ").append(x.next(1)).append(", free ").append(x.free());
        }
        return answers.append('\n').append(Face.of(x).state()).toString();
    }

    // Promise 2

    private void kindOfNoClass() {
        say.sentence(2, CLASSES);
        LinkQueues x = new LinkQueues();
        for (int i : new int[] {-1, 6, LEAST, GREATEST}) {
            refuses("kind(" + i + ", 1, 100)", () -> x.kind(i, 1, 100));
        }
        say.taken("kind(0, 1, 100)", () -> x.kind(0, 1, 100));
        say.taken("kind(5, 1, 100)", () -> x.kind(5, 1, 100));
    }

    private void kindIsNone() {
        say.sentence(2, "a KIND: 0 PLAIN (at first), 1 MEAN, 2 DELAY.");
        LinkQueues x = new LinkQueues();
        for (int kind : new int[] {-1, 3, LEAST, GREATEST}) {
            refuses("kind(0, " + kind + ", 100)", () -> x.kind(0, kind, 100));
        }
        for (int kind = 0; kind <= 2; kind++) {
            int right = kind;
            say.taken("kind(0, " + kind + ", 100)", () -> x.kind(0, right, 100));
        }
    }

    private void kindWithTheLeastAndTheGreatestQuantum() {
        say.sentence(2, "a QUANTUM of 1 .. 3000 bytes");
        LinkQueues x = new LinkQueues();
        for (int quantum : new int[] {0, -1, 3001, LEAST, GREATEST}) {
            refuses("kind(0, 0, " + quantum + ")", () -> x.kind(0, 0, quantum));
        }
        say.taken("kind(0, 0, 1)", () -> x.kind(0, 0, 1));
        say.taken("kind(0, 0, 3000)", () -> x.kind(0, 0, 3000));
    }

    private void kindThatThrows() {
        say.sentence(2, CHANGES_NOTHING);
        changesNothing("kind(6, 0, 100)", x -> x.kind(6, 0, 100));
        changesNothing("kind(0, 3, 100)", x -> x.kind(0, 3, 100));
        changesNothing("kind(0, 0, 0)", x -> x.kind(0, 0, 0));
        changesNothing("kind(1, 2, 3001)", x -> x.kind(1, 2, 3001));
        say.sentence(2, "IllegalArgument.");
        refuses("kind(0, 0, 3001)", () -> new LinkQueues().kind(0, 0, 3001));
    }

    // Promise 3

    private void meanOfNoClass() {
        say.sentence(3, CLASSES);
        LinkQueues x = new LinkQueues();
        for (int i : new int[] {-1, 6, LEAST, GREATEST}) {
            refuses("mean(" + i + ", 0.0, 1.0, 1.0, 1.0)", () -> x.mean(i, 0.0, 1.0, 1.0, 1.0));
        }
        say.taken("mean(0, 0.0, 1.0, 1.0, 1.0)", () -> x.mean(0, 0.0, 1.0, 1.0, 1.0));
        say.taken("mean(5, 0.0, 1.0, 1.0, 1.0)", () -> x.mean(5, 0.0, 1.0, 1.0, 1.0));
    }

    private void meanLowAndHigh() {
        say.sentence(3, "IllegalArgument: not 0.0 <= low < high <= 1000.0, 0.0 < top <= 1.0, 0.0 < weight <= 1.0.");
        LinkQueues x = new LinkQueues();
        double[][] wrong = {
            {-TINY, 1.0}, {-1.0, -0.5}, {-ENDLESS, 1.0}, {0.0, 0.0}, {1.0, 1.0}, {1000.0, 1000.0},
            {Math.nextUp(1.0), 1.0}, {TINY, 0.0}, {0.0, Math.nextUp(1000.0)}, {1000.0, 1000.5}, {0.0, ENDLESS},
        };
        for (double[] w : wrong) {
            refuses("mean(0, " + w[0] + ", " + w[1] + ", ..)", () -> x.mean(0, w[0], w[1], 1.0, 1.0));
        }
        double[][] right = {{0.0, TINY}, {-0.0, 1.0}, {1.0, Math.nextUp(1.0)}, {Math.nextDown(1000.0), 1000.0}, {0.0, 1000.0}};
        for (double[] r : right) {
            say.taken("mean(0, " + r[0] + ", " + r[1] + ", ..)", () -> x.mean(0, r[0], r[1], 1.0, 1.0));
        }
    }

    private void meanTop() {
        say.sentence(3, "0.0 < top <= 1.0");
        LinkQueues x = new LinkQueues();
        for (double top : new double[] {0.0, -0.0, -TINY, -ENDLESS, Math.nextUp(1.0), ENDLESS}) {
            refuses("mean with a top of " + top, () -> x.mean(0, 0.0, 1.0, top, 1.0));
        }
        say.taken("mean with the least top", () -> x.mean(0, 0.0, 1.0, TINY, 1.0));
        say.taken("mean with a top of 1.0", () -> x.mean(0, 0.0, 1.0, 1.0, 1.0));
    }

    private void meanWeight() {
        say.sentence(3, "0.0 < weight <= 1.0");
        LinkQueues x = new LinkQueues();
        for (double weight : new double[] {0.0, -0.0, -TINY, -ENDLESS, Math.nextUp(1.0), ENDLESS}) {
            refuses("mean with a weight of " + weight, () -> x.mean(0, 0.0, 1.0, 1.0, weight));
        }
        say.taken("mean with the least weight", () -> x.mean(0, 0.0, 1.0, 1.0, TINY));
        say.taken("mean with a weight of 1.0", () -> x.mean(0, 0.0, 1.0, 1.0, 1.0));
    }

    private void meanOfNoNumber() {
        say.sentence(3, NO_NUMBER);
        LinkQueues x = new LinkQueues();
        refuses("a low that is none", () -> x.mean(0, NAN, 1.0, 1.0, 1.0));
        refuses("a high that is none", () -> x.mean(0, 0.0, NAN, 1.0, 1.0));
        refuses("a top that is none", () -> x.mean(0, 0.0, 1.0, NAN, 1.0));
        refuses("a weight that is none", () -> x.mean(0, 0.0, 1.0, 1.0, NAN));
    }

    private void meanThatThrows() {
        say.sentence(3, CHANGES_NOTHING);
        changesNothing("mean(6, ..)", x -> x.mean(6, 0.0, 1.0, 1.0, 1.0));
        changesNothing("mean with a wrong low", x -> x.mean(0, -1.0, 1.0, 1.0, 1.0));
        changesNothing("mean with a wrong high", x -> x.mean(0, 0.0, 1001.0, 1.0, 1.0));
        changesNothing("mean with a wrong top", x -> x.mean(0, 0.0, 1.0, 2.0, 1.0));
        changesNothing("mean with a wrong weight", x -> x.mean(0, 0.0, 1.0, 1.0, 2.0));
    }

    // Promise 4

    private void delayOfNoClass() {
        say.sentence(4, CLASSES);
        LinkQueues x = new LinkQueues();
        for (int i : new int[] {-1, 6, LEAST, GREATEST}) {
            refuses("delay(" + i + ", 1.0, 1.0)", () -> x.delay(i, 1.0, 1.0));
        }
        say.taken("delay(0, 1.0, 1.0)", () -> x.delay(0, 1.0, 1.0));
        say.taken("delay(5, 1.0, 1.0)", () -> x.delay(5, 1.0, 1.0));
    }

    private void delayTargetAndInterval() {
        say.sentence(4, "IllegalArgument: not 0.0 < target <= interval <= 10,000.0.");
        LinkQueues x = new LinkQueues();
        double[][] wrong = {
            {0.0, 1.0}, {-0.0, 1.0}, {-TINY, 1.0}, {-ENDLESS, 1.0}, {0.0, 0.0}, {-2.0, -1.0}, {Math.nextUp(1.0), 1.0},
            {1.0, Math.nextUp(10000.0)}, {10000.0, 9999.0}, {1.0, ENDLESS}, {ENDLESS, ENDLESS},
        };
        for (double[] w : wrong) {
            refuses("delay(0, " + w[0] + ", " + w[1] + ")", () -> x.delay(0, w[0], w[1]));
        }
        double[][] right = {{TINY, TINY}, {1.0, 1.0}, {1.0, Math.nextUp(1.0)}, {TINY, 10000.0}, {10000.0, 10000.0}};
        for (double[] r : right) {
            say.taken("delay(0, " + r[0] + ", " + r[1] + ")", () -> x.delay(0, r[0], r[1]));
        }
    }

    private void delayOfNoNumber() {
        say.sentence(4, NO_NUMBER);
        LinkQueues x = new LinkQueues();
        refuses("a target that is none", () -> x.delay(0, NAN, 1.0));
        refuses("an interval that is none", () -> x.delay(0, 1.0, NAN));
    }

    private void delayThatThrows() {
        say.sentence(4, CHANGES_NOTHING);
        changesNothing("delay(6, ..)", x -> x.delay(6, 1.0, 1.0));
        changesNothing("delay with a wrong target", x -> x.delay(1, 0.0, 1.0));
        changesNothing("delay with a wrong interval", x -> x.delay(1, 50.0, 20000.0));
    }

    // Promise 5

    private void linkRate() {
        say.sentence(5, "IllegalArgument: not 0.125 <= rate <= 10,000.0, or limit not 1 .. 1,000,000.");
        LinkQueues x = new LinkQueues();
        double[] wrong = {Math.nextDown(0.125), 0.0, -0.125, -ENDLESS, Math.nextUp(10000.0), ENDLESS};
        for (double rate : wrong) {
            refuses("link(" + rate + ", 100)", () -> x.link(rate, 100));
        }
        say.taken("link(0.125, 100)", () -> x.link(0.125, 100));
        say.taken("link(10000.0, 100)", () -> x.link(10000.0, 100));
    }

    private void linkLimit() {
        say.sentence(5, "or limit not 1 .. 1,000,000");
        LinkQueues x = new LinkQueues();
        for (int limit : new int[] {0, -1, 1000001, LEAST, GREATEST}) {
            refuses("link(1.0, " + limit + ")", () -> x.link(1.0, limit));
        }
        say.taken("link(1.0, 1)", () -> x.link(1.0, 1));
        say.taken("link(1.0, 1000000)", () -> x.link(1.0, 1000000));
    }

    private void linkOfNoNumber() {
        say.sentence(5, NO_NUMBER);
        refuses("a rate that is none", () -> new LinkQueues().link(NAN, 100));
    }

    private void linkThatThrows() {
        say.sentence(5, CHANGES_NOTHING);
        changesNothing("link with a wrong rate", x -> x.link(0.0, 500));
        changesNothing("link with a wrong limit", x -> x.link(1.0, 0));
    }

    // Promise 6

    private void coinTooSmallAndTooLarge() {
        say.sentence(6, "IllegalArgument: not 0.0 <= coin < 1.0.");
        LinkQueues x = new LinkQueues();
        for (double coin : new double[] {-TINY, -0.5, -ENDLESS, 1.0, Math.nextUp(1.0), ENDLESS}) {
            refuses("coin(" + coin + ")", () -> x.coin(coin));
        }
        say.due("coin(0.0)", x.coin(0.0), 1);
        say.due("coin(-0.0)", x.coin(-0.0), 2);
        say.due("the greatest coin", x.coin(Math.nextDown(1.0)), 3);
    }

    private void coinOfNoNumber() {
        say.sentence(6, NO_NUMBER);
        refuses("a coin that is none", () -> new LinkQueues().coin(NAN));
    }

    private void coinAboveSixtyFour() {
        say.sentence(6, "IllegalState: there are 64.");
        LinkQueues x = exactMean(0.0, 1000.0, 0.001);
        for (int many = 1; many <= 64; many++) {
            say.due("coin " + many, x.coin(0.9), many);
        }
        say.refused("the 65th coin", STATE, () -> x.coin(0.9));
        say.refused("once more", STATE, () -> x.coin(0.0));
        x.come(0, 1, false);
        say.due("one was used: there are 63 and one more", x.coin(0.9), 64);
        say.refused("there are 64 again", STATE, () -> x.coin(0.9));
    }

    private void coinThatThrows() {
        say.sentence(6, CHANGES_NOTHING);
        changesNothing("coin(-0.5)", x -> x.coin(-0.5));
        changesNothing("coin(1.0)", x -> x.coin(1.0));
        LinkQueues x = exactMean(0.0, 100.0, 1.0);
        for (int many = 0; many < 64; many++) {
            x.coin(0.9);
        }
        say.refused("the 65th coin", STATE, () -> x.coin(0.0));
        comeMany(x, 0, 2, 1);
        // 0.0 would be below p / d, which is 0.01 / 0.99 here.
        say.due("the coin that was refused is not the next", x.count(0, 3), 0);
        say.due("it is none of those that wait", coinsThatWaited(x), 62);
    }

    // Promise 7

    private void comeOfNoClass() {
        say.sentence(7, CLASSES);
        LinkQueues x = new LinkQueues();
        for (int i : new int[] {-1, 6, LEAST, GREATEST}) {
            refuses("come(" + i + ", 1, true)", () -> x.come(i, 1, true));
        }
        say.due("come(0, 1, true)", x.come(0, 1, true), 0);
        say.due("come(5, 1, true)", x.come(5, 1, true), 1);
    }

    private void comeWithTheLeastAndTheMostBytes() {
        say.sentence(7, "1 .. 1500 bytes");
        LinkQueues x = new LinkQueues();
        for (int bytes : new int[] {0, -1, 1501, LEAST, GREATEST}) {
            refuses("come(0, " + bytes + ", false)", () -> x.come(0, bytes, false));
        }
        say.due("come(0, 1, false)", x.come(0, 1, false), 0);
        say.due("come(0, 1500, false)", x.come(0, 1500, false), 1);
        say.due("bytes that wait", x.count(0, 7), 1501);
    }

    private void comeThatThrows() {
        say.sentence(7, CHANGES_NOTHING);
        changesNothing("come(6, 1, true)", x -> x.come(6, 1, true));
        changesNothing("come(0, 0, true)", x -> x.come(0, 0, true));
        changesNothing("come(0, 1501, true)", x -> x.come(0, 1501, true));
        LinkQueues full = new LinkQueues();
        comeMany(full, 0, 100, 1);
        refuses("come(0, 1501, true) where there is no room", () -> full.come(0, 1501, true));
        say.due("it was not lost", full.count(0, 2), 0);
        say.sentence(7, "IllegalArgument.");
        refuses("come(0, 1501, true)", () -> new LinkQueues().come(0, 1501, true));
    }

    // Promise 8

    private void tickTooFewAndTooMany() {
        say.sentence(8, "So many ticks, 1 .. 1000: how many PACKETS were SENT. IllegalArgument.");
        LinkQueues x = new LinkQueues();
        for (int many : new int[] {0, -1, 1001, LEAST, GREATEST}) {
            refuses("tick(" + many + ")", () -> x.tick(many));
        }
        say.due("tick(1) of an empty object", x.tick(1), 0);
        say.due("clock after tick(1)", x.clock(), 1);
        x.come(0, 1500, false);
        say.due("tick(1000)", x.tick(1000), 1);
        say.due("clock after tick(1000)", x.clock(), 1001);
    }

    private void tickThatThrows() {
        say.sentence(8, CHANGES_NOTHING);
        changesNothing("tick(0)", x -> x.tick(0));
        changesNothing("tick(-1)", x -> x.tick(-1));
        changesNothing("tick(1001)", x -> x.tick(1001));
    }

    // Promise 9

    private void countOfNoClass() {
        say.sentence(9, CLASSES);
        LinkQueues x = new LinkQueues();
        for (int i : new int[] {-1, 6, LEAST, GREATEST}) {
            refuses("count(" + i + ", 0)", () -> x.count(i, 0));
        }
        say.due("count(0, 0)", x.count(0, 0), 0);
        say.due("count(5, 0)", x.count(5, 0), 0);
    }

    private void countOfAnotherWhat() {
        say.sentence(9, "9 DEFICIT (0 if it is not in the ROUND). IllegalArgument.");
        LinkQueues x = new LinkQueues();
        for (int what : new int[] {-1, 10, LEAST, GREATEST}) {
            refuses("count(0, " + what + ")", () -> x.count(0, what));
        }
        say.due("count(0, 9)", x.count(0, 9), 0);
    }

    private void countThatThrows() {
        say.sentence(9, CHANGES_NOTHING);
        changesNothing("count(6, 0)", x -> x.count(6, 0));
        changesNothing("count(0, 10)", x -> x.count(0, 10));
    }

    // Promises 10 and 11

    private void averageOfNoClass() {
        say.sentence(10, "A class's AVERAGE. IllegalArgument.");
        LinkQueues x = new LinkQueues();
        for (int i : new int[] {-1, 6, LEAST, GREATEST}) {
            refuses("average(" + i + ")", () -> x.average(i));
        }
        say.due("average(0)", x.average(0), 0.0);
        say.due("average(5)", x.average(5), 0.0);
    }

    private void averageThatThrows() {
        say.sentence(10, CHANGES_NOTHING);
        changesNothing("average(6)", x -> x.average(6));
    }

    private void nextOfNoClass() {
        say.sentence(11, "A class's NEXT, if it DROPS; else -1.0. IllegalArgument.");
        LinkQueues x = new LinkQueues();
        for (int i : new int[] {-1, 6, LEAST, GREATEST}) {
            refuses("next(" + i + ")", () -> x.next(i));
        }
        say.due("next(0)", x.next(0), -1.0);
        say.due("next(5)", x.next(5), -1.0);
    }

    private void nextThatThrows() {
        say.sentence(11, CHANGES_NOTHING);
        changesNothing("next(-1)", x -> x.next(-1));
    }

    // Promise 13

    private void sentOfAnotherWhat() {
        say.sentence(13, "IllegalArgument: another what.");
        LinkQueues x = new LinkQueues();
        x.come(0, 1, false);
        x.tick(1);
        for (int what : new int[] {-1, 5, LEAST, GREATEST}) {
            refuses("sent(0, " + what + ")", () -> x.sent(0, what));
            refuses("sent(31, " + what + "), of none", () -> x.sent(31, what));
            refuses("sent(-1, " + what + "), of another k", () -> x.sent(-1, what));
        }
        say.due("sent(0, 4)", x.sent(0, 4), 0);
    }

    private void sentThatThrows() {
        say.sentence(13, CHANGES_NOTHING);
        changesNothing("sent(0, 5)", x -> x.sent(0, 5));
    }
}
