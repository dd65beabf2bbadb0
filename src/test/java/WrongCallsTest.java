import java.util.ArrayList;
import java.util.List;
import java.util.Random;

/** Calls that throw change nothing: an object that gets them goes on as its twin that gets none. */
final class WrongCallsTest {
    private static final int RUNS = 200;
    private static final double[] ODD = {Double.NaN, Double.POSITIVE_INFINITY, Double.NEGATIVE_INFINITY, -1.0, 20000.0};

    private final Checks checks;
    private final Random random;
    private final LinkQueues bothered = new LinkQueues();
    private final Face face = Face.of(bothered);
    private final Face twin = Face.ofProgram();

    private WrongCallsTest(Checks checks, long seed) {
        this.checks = checks;
        random = new Random(seed);
    }

    public static void main(String[] args) {
        Checks checks = new Checks();
        for (int run = 0; run < RUNS; run++) {
            new WrongCallsTest(checks, run).play("run " + run);
        }
        checks.end();
    }

    private void play(String run) {
        tell(face);
        tell(twin);
        for (int step = 0; step < 60; step++) {
            String before = face.state();
            callWrongly(run + ", step " + step);
            checks.due(run + ", step " + step + ": state after wrong calls", face.state(), before);
            int i = random.nextInt(4), bytes = 1 + random.nextInt(400), many = 1 + random.nextInt(3);
            boolean markable = random.nextBoolean();
            double coin = random.nextDouble();
            for (Face x : List.of(face, twin)) {
                x.come(i, bytes, markable);
                x.come(i, bytes, !markable);
                x.tick(many);
            }
            checks.due(run + ", step " + step + ": coin", answerOfCoin(face, coin), answerOfCoin(twin, coin));
            checks.due(run + ", step " + step + ": state", face.state(), twin.state());
        }
    }

    private static void tell(Face x) {
        x.kind(1, 1, 700);
        x.mean(1, 0.5, 8.0, 0.5, 0.5);
        x.kind(2, 2, 700);
        x.delay(2, 1.0, 3.0);
        x.kind(3, 1, 100);
        x.link(150.0, 9000);
    }

    private static String answerOfCoin(Face x, double coin) {
        try {
            return "" + x.coin(coin);
        } catch (IllegalStateException e) {
            return "full";
        }
    }

    private void callWrongly(String where) {
        int place = random.nextBoolean() ? 6 + random.nextInt(1000) : -1 - random.nextInt(1000);
        int right = random.nextInt(6);
        double odd = ODD[random.nextInt(ODD.length)];
        List<Runnable> calls = new ArrayList<>(List.of(
            () -> bothered.kind(place, 1, 100), () -> bothered.kind(right, place, 100), () -> bothered.kind(right, 1, 0),
            () -> bothered.kind(right, 1, 3001), () -> bothered.mean(place, 0.0, 1.0, 1.0, 1.0),
            () -> bothered.mean(right, odd, 1.0, 1.0, 1.0), () -> bothered.mean(right, 0.0, odd, 1.0, 1.0)));
        calls.addAll(List.of(
            () -> bothered.mean(right, 0.0, 1.0, odd, 1.0), () -> bothered.mean(right, 0.0, 1.0, 1.0, odd),
            () -> bothered.delay(place, 1.0, 1.0), () -> bothered.delay(right, odd, 2.0), () -> bothered.delay(right, 1.0, odd),
            () -> bothered.link(odd, 100), () -> bothered.link(1.0, 0), () -> bothered.link(1.0, 1000001)));
        calls.addAll(List.of(
            () -> bothered.coin(odd), () -> bothered.come(place, 1, true), () -> bothered.come(right, 0, true),
            () -> bothered.come(right, 1501, true), () -> bothered.tick(0), () -> bothered.tick(1001)));
        calls.addAll(List.of(
            () -> bothered.count(place, 0), () -> bothered.count(right, 10), () -> bothered.count(right, -1),
            () -> bothered.average(place), () -> bothered.next(place), () -> bothered.sent(0, 5), () -> bothered.sent(40, -1)));
        for (int k = 0; k < calls.size(); k++) {
            checks.refused(where + ", wrong call " + k, IllegalArgumentException.class, calls.get(k));
        }
    }
}
