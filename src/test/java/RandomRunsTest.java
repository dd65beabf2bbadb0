import java.util.Random;
import java.util.function.Consumer;
import java.util.function.Function;

/** Long runs of mixed calls, right and wrong ones, on the program and on the model: all answers must agree. */
final class RandomRunsTest {
    private static final int RUNS = 3000;
    private static final int CALLS = 512;
    private static final int[] WRONG_INTS = {Integer.MIN_VALUE, -2, -1, 6, 10, 1501, 3001, Integer.MAX_VALUE};
    private static final double[] ODD_DOUBLES = {
        Double.NaN, Double.NEGATIVE_INFINITY, Double.POSITIVE_INFINITY, -0.0, 0.0, 1.0, -1.0, 0.125, 1000.0,
        10000.0, Double.MIN_VALUE, Double.MAX_VALUE, 0.12499999999999999, 0.9999999999999999, 1.0000000000000002
    };

    private final Checks checks;
    private final Random random;
    private final Face program = Face.ofProgram();
    private final Model model = new Model();
    private final int wrongInHundred;
    private final int classes;
    private final int largest;
    private final int ticks;
    private final int changesInHundred;

    private RandomRunsTest(Checks checks, long seed) {
        this.checks = checks;
        random = new Random(seed);
        wrongInHundred = oneOf(0, 5, 10);
        classes = oneOf(1, 2, 6);
        largest = oneOf(10, 100, 500, 1500);
        ticks = oneOf(1, 3, 20, 200);
        changesInHundred = oneOf(0, 2, 8);
    }

    public static void main(String[] args) {
        Checks checks = new Checks();
        int[] reached = new int[9];
        for (int run = 0; run < RUNS; run++) {
            RandomRunsTest test = new RandomRunsTest(checks, run);
            test.play("run " + run + ", ");
            test.addReached(reached);
        }
        // Else a change of the runs could leave a rare case out, and nobody would see it.
        for (int k = 0; k < reached.length; k++) {
            checks.isTrue("the runs reach the rare case " + k + " often, not " + reached[k] + " times", reached[k] >= 50);
        }
        checks.end();
    }

    private void addReached(int[] reached) {
        for (int[] tally : model.tallies) {
            for (int k = 0; k < 4; k++) {
                reached[k] += tally[2 + k];
            }
        }
        reached[4] += model.coinsUsed;
        reached[5] += model.surelyHit;
        reached[6] += model.wentOnDropping;
        reached[7] += model.markedTwice;
        reached[8] += model.lostAfterAnother;
    }

    private void play(String run) {
        tellFirst(run);
        for (int call = 0; call < CALLS; call++) {
            String where = run + "call " + call + ": ";
            callOnce(where);
            if (call % 16 == 15) {
                same(where + "state", Face::state);
            }
        }
    }

    private void tellFirst(String where) {
        for (int i = 0; i < 6; i++) {
            int place = i, kind = random.nextInt(3), quantum = 1 + random.nextInt(3000);
            double low = random.nextInt(8) / 2.0, high = low + 0.5 + random.nextInt(20);
            double top = 1.0 / (1 + random.nextInt(4)), weight = 1.0 / (1 + random.nextInt(4));
            double target = 1 + random.nextInt(6), interval = target + random.nextInt(10);
            told(where + "kind", x -> x.kind(place, kind, quantum));
            told(where + "mean", x -> x.mean(place, low, high, top, weight));
            told(where + "delay", x -> x.delay(place, target, interval));
        }
        double rate = new double[] {0.125, 1.0, 10.0, 100.0, 333.3, 10000.0}[random.nextInt(6)];
        told(where + "link", x -> x.link(rate, 60000));
    }

    private void callOnce(String where) {
        int dice = random.nextInt(100);
        if (random.nextInt(100) < changesInHundred) {
            change(where);
        } else if (dice < 60) {
            come(where);
        } else if (dice < 85) {
            int many = number(1, ticks);
            same(where + "tick(" + many + ")", x -> "" + x.tick(many));
        } else if (dice < 92) {
            double coin = real(random.nextDouble());
            same(where + "coin(" + coin + ")", x -> "" + x.coin(coin));
        } else {
            ask(where);
        }
    }

    private void come(String where) {
        int i = number(0, classes - 1), bytes = number(1, largest);
        boolean markable = random.nextInt(3) == 0;
        same(where + "come(" + i + ", " + bytes + ", " + markable + ")", x -> "" + x.come(i, bytes, markable));
    }

    private void ask(String where) {
        int i = number(0, 5), what = number(0, 9), k = number(0, 35);
        same(where + "count(" + i + ", " + what + ")", x -> "" + x.count(i, what));
        same(where + "average(" + i + ")", x -> "" + x.average(i));
        same(where + "next(" + i + ")", x -> "" + x.next(i));
        same(where + "sent(" + k + ", " + what + ")", x -> "" + x.sent(k, what));
        same(where + "round(" + k + ")", x -> "" + x.round(k));
    }

    private void change(String where) {
        int i = number(0, classes - 1);
        double a = real(random.nextDouble() * 4), b = real(a + random.nextDouble() * 10);
        double c = real(1.0 - random.nextDouble()), d = real(1.0 - random.nextDouble());
        switch (random.nextInt(4)) {
            case 0:
                int kind = number(0, 2), quantum = number(1, 3000);
                told(where + "kind(" + i + ", " + kind + ", " + quantum + ")", x -> x.kind(i, kind, quantum));
                break;
            case 1:
                told(where + "mean(" + i + ", " + a + ", " + b + ", " + c + ", " + d + ")", x -> x.mean(i, a, b, c, d));
                break;
            case 2:
                told(where + "delay(" + i + ", " + a + ", " + b + ")", x -> x.delay(i, a, b));
                break;
            default:
                int limit = number(1, oneOf(5000, 1000000));
                told(where + "link(" + b * 30 + ", " + limit + ")", x -> x.link(b * 30, limit));
        }
    }

    private int oneOf(int... choices) {
        return choices[random.nextInt(choices.length)];
    }

    private boolean isWrong() {
        return random.nextInt(200) < wrongInHundred;
    }

    private int number(int least, int most) {
        return isWrong() ? oneOf(WRONG_INTS) : least + random.nextInt(most - least + 1);
    }

    private double real(double usual) {
        return isWrong() ? ODD_DOUBLES[random.nextInt(ODD_DOUBLES.length)] : usual;
    }

    private void told(String call, Consumer<Face> telling) {
        same(call, x -> {
            telling.accept(x);
            return "nothing";
        });
    }

    private void same(String call, Function<Face, String> asked) {
        checks.due(call, answer(asked, program), answer(asked, model));
    }

    private static String answer(Function<Face, String> asked, Face face) {
        try {
            return asked.apply(face);
        } catch (RuntimeException e) {
            return e.getClass().getName();
        }
    }
}
