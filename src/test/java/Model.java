import java.util.ArrayDeque;
import java.util.ArrayList;
import java.util.Arrays;
import java.util.Deque;
import java.util.List;

/** A second reading of the document, in its own words and apart from the program, for comparison. */
final class Model implements Face {
    private static final double NO_TIME = -1.0;

    private static final class Packet {
        int number, theClass, bytes, came, wait;
        boolean markable, marked;
    }

    final int[][] tallies = new int[6][9];
    /** How often the rarer sentences of the document were reached. */
    int coinsUsed = 0, surelyHit = 0, wentOnDropping = 0, markedTwice = 0, lostAfterAnother = 0;

    private int clock = 0;
    private double free = 0.0;
    private final List<Integer> round = new ArrayList<>();
    private final double[] average = new double[6];
    private boolean turnBegun = false;
    private double rate = 100.0;
    private int limit = 1000000, numbers = 0;
    private final List<Deque<Packet>> queues = new ArrayList<>();
    private final List<Packet> out = new ArrayList<>();
    private final Deque<Double> coins = new ArrayDeque<>();
    private final int[] kind = new int[6], quantum = new int[6], deficit = new int[6];
    private final double[][] meanTold = new double[6][], delayTold = new double[6][];
    private final int[] meanCount = new int[6], emptySince = new int[6];
    private final double[] above = new double[6], next = new double[6];
    private final boolean[] drops = new boolean[6];
    private final int[] delayCount = new int[6], delayLast = new int[6];

    Model() {
        for (int i = 0; i < 6; i++) {
            queues.add(new ArrayDeque<>());
            meanTold[i] = new double[] {5.0, 15.0, 0.1, 0.25};
            delayTold[i] = new double[] {5.0, 100.0};
        }
        Arrays.fill(quantum, 1500);
        Arrays.fill(meanCount, -1);
        Arrays.fill(above, NO_TIME);
    }

    private static void must(boolean holds) {
        if (!holds) {
            throw new IllegalArgumentException();
        }
    }

    public void kind(int i, int newKind, int newQuantum) {
        must(0 <= i && i <= 5 && 0 <= newKind && newKind <= 2 && 1 <= newQuantum && newQuantum <= 3000);
        kind[i] = newKind;
        quantum[i] = newQuantum;
        average[i] = 0.0;
        meanCount[i] = -1;
        emptySince[i] = clock;
        above[i] = NO_TIME;
        drops[i] = false;
        delayCount[i] = 0;
        delayLast[i] = 0;
    }

    public void mean(int i, double low, double high, double top, double weight) {
        must(0 <= i && i <= 5 && 0.0 <= low && low < high && high <= 1000.0);
        must(0.0 < top && top <= 1.0 && 0.0 < weight && weight <= 1.0);
        meanTold[i] = new double[] {low, high, top, weight};
    }

    public void delay(int i, double target, double interval) {
        must(0 <= i && i <= 5 && 0.0 < target && target <= interval && interval <= 10000.0);
        delayTold[i] = new double[] {target, interval};
    }

    public void link(double newRate, int newLimit) {
        must(0.125 <= newRate && newRate <= 10000.0 && 1 <= newLimit && newLimit <= 1000000);
        rate = newRate;
        limit = newLimit;
    }

    public int coin(double coin) {
        must(0.0 <= coin && coin < 1.0);
        if (coins.size() == 64) {
            throw new IllegalStateException();
        }
        coins.addLast(coin);
        return coins.size();
    }

    public int come(int i, int bytes, boolean markable) {
        must(0 <= i && i <= 5 && 1 <= bytes && bytes <= 1500);
        Packet packet = new Packet();
        packet.number = numbers++;
        packet.theClass = i;
        packet.bytes = bytes;
        packet.came = clock;
        packet.markable = markable;
        tallies[i][0]++;
        int allPackets = 0, allBytes = 0;
        for (Deque<Packet> queue : queues) {
            allPackets += queue.size();
            allBytes += queue.stream().mapToInt(p -> p.bytes).sum();
        }
        if (allPackets + 1 > 100 || allBytes + bytes > limit) {
            tallies[i][2]++;
            return -1;
        }
        if (kind[i] == 1 && !meanLetsIn(i, packet)) {
            tallies[i][3]++;
            return -1;
        }
        queues.get(i).addLast(packet);
        if (!round.contains(i)) {
            round.add(i);
            deficit[i] = 0;
        }
        return packet.number;
    }

    private boolean meanLetsIn(int i, Packet packet) {
        double low = meanTold[i][0], high = meanTold[i][1], top = meanTold[i][2], weight = meanTold[i][3];
        int n = queues.get(i).size();
        if (n == 0) {
            for (int t = emptySince[i]; t < clock && t < emptySince[i] + 100; t++) {
                average[i] = average[i] * (1.0 - weight);
            }
            emptySince[i] = clock;
        } else {
            average[i] = average[i] + weight * (n - average[i]);
        }
        if (average[i] < low) {
            meanCount[i] = -1;
            return true;
        }
        if (average[i] >= high) {
            meanCount[i] = 0;
            return false;
        }
        meanCount[i] = meanCount[i] + 1;
        double p = top * (average[i] - low) / (high - low);
        double d = 1.0 - meanCount[i] * p;
        boolean hit;
        if (d > 0.0) {
            double coin = coins.isEmpty() ? 0.5 : coins.removeFirst();
            coinsUsed++;
            hit = coin < p / d;
        } else {
            surelyHit++;
            hit = true;
        }
        if (!hit) {
            return true;
        }
        meanCount[i] = 0;
        if (packet.markable) {
            mark(i, packet);
        }
        return packet.markable;
    }

    private void mark(int i, Packet packet) {
        if (packet.marked) {
            markedTwice++;
        } else {
            tallies[i][5]++;
        }
        packet.marked = true;
    }

    public int tick(int many) {
        must(1 <= many && many <= 1000);
        int before = out.size();
        for (int t = 0; t < many; t++) {
            clock++;
            while (free <= clock) {
                Packet packet = chosen();
                if (packet == null) {
                    free = clock;
                    break;
                }
                tallies[packet.theClass][1]++;
                tallies[packet.theClass][8] += packet.bytes;
                out.add(packet);
                free = free + packet.bytes / rate;
            }
        }
        return out.size() - before;
    }

    private Packet chosen() {
        boolean lostOne = false;
        while (!round.isEmpty()) {
            int i = round.get(0);
            if (!turnBegun) {
                deficit[i] += quantum[i];
                turnBegun = true;
            }
            Deque<Packet> queue = queues.get(i);
            if (queue.getFirst().bytes > deficit[i]) {
                round.remove(0);
                round.add(i);
                turnBegun = false;
                continue;
            }
            Packet packet = queue.removeFirst();
            packet.wait = clock - packet.came;
            if (kind[i] == 2 && delayLoses(i, packet, !queue.isEmpty())) {
                tallies[i][4]++;
                if (lostOne) {
                    lostAfterAnother++;
                }
                lostOne = true;
                continue;
            }
            deficit[i] -= packet.bytes;
            if (queue.isEmpty()) {
                round.remove(0);
                deficit[i] = 0;
                turnBegun = false;
                emptySince[i] = clock;
            }
            return packet;
        }
        return null;
    }

    private boolean delayLoses(int i, Packet packet, boolean oneStays) {
        double target = delayTold[i][0], interval = delayTold[i][1];
        int t = clock;
        boolean late = false;
        if (packet.wait < target || !oneStays) {
            above[i] = NO_TIME;
        } else if (above[i] == NO_TIME) {
            above[i] = t + interval;
        } else {
            late = !(t < above[i]);
        }
        boolean hit = false;
        if (drops[i]) {
            if (!late) {
                drops[i] = false;
            } else if (!(t < next[i])) {
                delayCount[i] += 1;
                next[i] = next[i] + interval / root(delayCount[i]);
                hit = true;
            }
        } else if (late) {
            drops[i] = true;
            int since = delayCount[i] - delayLast[i];
            if (since > 1 && t - next[i] < 16.0 * interval) {
                delayCount[i] = since;
                wentOnDropping++;
            } else {
                delayCount[i] = 1;
            }
            delayLast[i] = delayCount[i];
            next[i] = t + interval / root(delayCount[i]);
            hit = true;
        }
        if (hit && packet.markable) {
            mark(i, packet);
        }
        return hit && !packet.markable;
    }

    static double root(int n) {
        double r = n;
        for (int k = 1; k <= 20; k++) {
            r = (r + n / r) / 2.0;
        }
        return r;
    }

    public int count(int i, int what) {
        must(0 <= i && i <= 5 && 0 <= what && what <= 9);
        switch (what) {
            case 6: return queues.get(i).size();
            case 7: return queues.get(i).stream().mapToInt(p -> p.bytes).sum();
            case 9: return round.contains(i) ? deficit[i] : 0;
            default: return tallies[i][what];
        }
    }

    public double average(int i) {
        must(0 <= i && i <= 5);
        return average[i];
    }

    public double next(int i) {
        must(0 <= i && i <= 5);
        return drops[i] ? next[i] : -1.0;
    }

    public int sent(int k, int what) {
        must(0 <= what && what <= 4);
        if (k < 0 || k > 31 || k >= out.size()) {
            return -1;
        }
        Packet packet = out.get(out.size() - 1 - k);
        int[] told = {packet.number, packet.theClass, packet.bytes, packet.wait, packet.marked ? 1 : 0};
        return told[what];
    }

    public int round(int k) {
        return k < 0 || k >= round.size() ? -1 : round.get(k);
    }

    public double free() {
        return free;
    }

    public int clock() {
        return clock;
    }
}
