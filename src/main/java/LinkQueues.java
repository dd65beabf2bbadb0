/**
 * Queues in front of a link: packets of six classes wait, the classes take turns by deficits, and
 * each may let packets go before its queue is full. README.md tells how to use it.
 */
public final class LinkQueues {
    public static final int NONE = -1;

    private static final int PLAIN = 0;
    private static final int MEAN = 1;
    private static final int DELAY = 2;

    private static final int CLASSES = 6;
    private static final int MOST_QUANTUM = 3000;
    private static final int MOST_BYTES = 1500;
    private static final int MOST_PACKETS = 100;
    private static final int MOST_LIMIT = 1_000_000;
    private static final int MOST_TICKS = 1000;

    // A class with the smallest quantum may need 1500 turns for one packet: far below this.
    private static final int MOST_LOOKS = 1_000_000;

    private final Flow[] flows = new Flow[CLASSES];
    private final Turns turns = new Turns();
    private final Coins coins = new Coins();
    private final Outlog outlog = new Outlog();
    private int now = 0;
    private int numbers = 0;
    private int waitingPackets = 0;
    private int waitingBytes = 0;
    private int limit = MOST_LIMIT;
    private double rate = 100.0;
    private double freeFrom = 0.0;

    public LinkQueues() {
        for (int i = 0; i < flows.length; i++) {
            flows[i] = new Flow(i);
        }
    }

    public void kind(int i, int kind, int quantum) throws IllegalArgumentException {
        Flow flow = flowAt(i);
        if (kind < PLAIN || kind > DELAY) {
            throw new IllegalArgumentException("a kind is 0, 1 or 2");
        }
        if (quantum < 1 || quantum > MOST_QUANTUM) {
            throw new IllegalArgumentException("a quantum is 1 to 3000 bytes");
        }
        flow.kind = kind;
        flow.quantum = quantum;
        flow.mean.restart(now);
        flow.delay.restart();
    }

    // The tests of doubles are written as what must hold, so that a double that is none fails them.

    public void mean(int i, double low, double high, double top, double weight)
            throws IllegalArgumentException {
        Flow flow = flowAt(i);
        if (!(low >= 0.0 && low < high && high <= 1000.0)) {
            throw new IllegalArgumentException("not 0.0 <= low < high <= 1000.0");
        }
        if (!(top > 0.0 && top <= 1.0)) {
            throw new IllegalArgumentException("not 0.0 < top <= 1.0");
        }
        if (!(weight > 0.0 && weight <= 1.0)) {
            throw new IllegalArgumentException("not 0.0 < weight <= 1.0");
        }
        flow.mean.tell(low, high, top, weight);
    }

    public void delay(int i, double target, double interval) throws IllegalArgumentException {
        Flow flow = flowAt(i);
        if (!(target > 0.0 && target <= interval && interval <= 10000.0)) {
            throw new IllegalArgumentException("not 0.0 < target <= interval <= 10000.0");
        }
        flow.delay.tell(target, interval);
    }

    public void link(double rate, int limit) throws IllegalArgumentException {
        if (!(rate >= 0.125 && rate <= 10000.0)) {
            throw new IllegalArgumentException("not 0.125 <= rate <= 10000.0");
        }
        if (limit < 1 || limit > MOST_LIMIT) {
            throw new IllegalArgumentException("a limit is 1 to 1000000 bytes");
        }
        this.rate = rate;
        this.limit = limit;
    }

    public int coin(double coin) throws IllegalArgumentException, IllegalStateException {
        if (!(coin >= 0.0 && coin < 1.0)) {
            throw new IllegalArgumentException("not 0.0 <= coin < 1.0");
        }
        if (coins.isFull()) {
            throw new IllegalStateException("64 coins wait");
        }
        coins.add(coin);
        return coins.waiting();
    }

    public int come(int i, int bytes, boolean markable) throws IllegalArgumentException {
        Flow flow = flowAt(i);
        if (bytes < 1 || bytes > MOST_BYTES) {
            throw new IllegalArgumentException("a packet has 1 to 1500 bytes");
        }
        Packet packet = new Packet(numbers, flow, bytes, now, markable);
        numbers++;
        flow.came++;
        if (waitingPackets >= MOST_PACKETS || waitingBytes + bytes > limit) {
            flow.lostFull++;
            return NONE;
        }
        if (!flow.letsIn(packet, now, coins)) {
            flow.lostMean++;
            return NONE;
        }
        putIn(packet);
        return packet.number;
    }

    public int tick(int many) throws IllegalArgumentException {
        if (many < 1 || many > MOST_TICKS) {
            throw new IllegalArgumentException("1 to 1000 ticks");
        }
        int gone = 0;
        for (int done = 0; done < many; done++) {
            gone += oneTick();
        }
        return gone;
    }

    public int count(int i, int what) throws IllegalArgumentException {
        Flow flow = flowAt(i);
        switch (what) {
            case 0: return flow.came;
            case 1: return flow.sent;
            case 2: return flow.lostFull;
            case 3: return flow.lostMean;
            case 4: return flow.lostDelay;
            case 5: return flow.marked;
            case 6: return flow.queue.packets;
            case 7: return flow.queue.bytes;
            case 8: return flow.sentBytes;
            case 9: return flow.deficit;
            default: throw new IllegalArgumentException("what is counted is 0 to 9");
        }
    }

    public double average(int i) throws IllegalArgumentException {
        return flowAt(i).mean.average;
    }

    public double next(int i) throws IllegalArgumentException {
        Delay delay = flowAt(i).delay;
        return delay.drops ? delay.next : -1.0;
    }

    public double free() {
        return freeFrom;
    }

    public int sent(int k, int what) throws IllegalArgumentException {
        if (what < 0 || what > 4) {
            throw new IllegalArgumentException("what is told of a packet is 0 to 4");
        }
        Packet packet = outlog.lastBut(k);
        if (packet == null) {
            return NONE;
        }
        switch (what) {
            case 0: return packet.number;
            case 1: return packet.owner.place;
            case 2: return packet.bytes;
            case 3: return packet.wait;
            default: return packet.marked ? 1 : 0;
        }
    }

    public int round(int k) {
        Flow flow = turns.flowAfter(k);
        return flow == null ? NONE : flow.place;
    }

    public int clock() {
        return now;
    }

    private Flow flowAt(int i) throws IllegalArgumentException {
        Flow flow = i >= 0 && i < flows.length ? flows[i] : null;
        if (flow == null) {
            throw new IllegalArgumentException("a class is 0 to 5");
        }
        return flow;
    }

    private int oneTick() {
        now++;
        int gone = 0;
        // All that wait may go in one tick; the last choice is the one that finds none.
        while (freeFrom <= now && gone <= MOST_PACKETS) {
            Packet packet = choose();
            if (packet == null) {
                freeFrom = now;
                break;
            }
            send(packet);
            gone++;
        }
        return gone;
    }

    private void send(Packet packet) {
        packet.owner.sent++;
        packet.owner.sentBytes += packet.bytes;
        outlog.add(packet);
        freeFrom = freeFrom + packet.bytes / rate;
    }

    /** The packet that goes out now, or null if none waits. */
    private Packet choose() {
        Packet chosen = null;
        for (int looks = 0; looks < MOST_LOOKS && chosen == null && turns.first != null; looks++) {
            chosen = lookAt(turns.first);
        }
        return chosen;
    }

    /** Looks at one packet of the class that has its turn: the packet, or null if it isn't chosen. */
    private Packet lookAt(Flow flow) {
        turns.begin();
        Packet packet = flow.queue.first;
        if (packet == null || packet.bytes > flow.deficit) {
            turns.passOn();
            return null;
        }
        takeOut(packet);
        boolean chosen = flow.letsOut(packet, now);
        if (chosen) {
            flow.deficit -= packet.bytes;
        } else {
            flow.lostDelay++;
        }
        if (flow.queue.packets == 0) {
            turns.leave();
            flow.mean.emptySince = now;
        }
        return chosen ? packet : null;
    }

    private void putIn(Packet packet) {
        if (packet.owner.queue.packets == 0) {
            turns.join(packet.owner);
        }
        packet.owner.queue.add(packet);
        waitingPackets++;
        waitingBytes += packet.bytes;
    }

    private void takeOut(Packet packet) {
        packet.owner.queue.removeFirst();
        waitingPackets--;
        waitingBytes -= packet.bytes;
        packet.wait = now - packet.cameAt;
    }

    private static final class Packet {
        final int number;
        final Flow owner;
        final int bytes;
        final int cameAt;
        final boolean markable;
        boolean marked = false;
        int wait = 0;
        Packet behind = null;

        Packet(int number, Flow owner, int bytes, int cameAt, boolean markable) {
            this.number = number;
            this.owner = owner;
            this.bytes = bytes;
            this.cameAt = cameAt;
            this.markable = markable;
        }
    }

    /** Packets that wait, first come first. */
    private static final class Queue {
        Packet first = null;
        Packet last = null;
        int packets = 0;
        int bytes = 0;

        void add(Packet packet) {
            if (last == null) {
                first = packet;
            } else {
                last.behind = packet;
            }
            last = packet;
            packets++;
            bytes += packet.bytes;
        }

        void removeFirst() {
            Packet gone = first;
            if (gone == null) {
                return;
            }
            first = gone.behind;
            if (first == null) {
                last = null;
            }
            gone.behind = null;
            packets--;
            bytes -= gone.bytes;
        }
    }

    /** A class of packets; "class" is a word of the language. */
    private static final class Flow {
        final int place;
        final Queue queue = new Queue();
        final Mean mean = new Mean();
        final Delay delay = new Delay();
        int kind = PLAIN;
        int quantum = 1500;
        int deficit = 0;
        Flow behind = null;
        int came = 0;
        int sent = 0;
        int sentBytes = 0;
        int lostFull = 0;
        int lostMean = 0;
        int lostDelay = 0;
        int marked = 0;

        Flow(int place) {
            this.place = place;
        }

        boolean letsIn(Packet packet, int time, Coins coins) {
            if (kind != MEAN) {
                return true;
            }
            mean.reckon(queue.packets, time);
            if (mean.refuses()) {
                return false;
            }
            return !mean.hits(coins) || takesMark(packet);
        }

        /** Asked of a packet that is out of the queue already, its wait reckoned. */
        boolean letsOut(Packet packet, int time) {
            if (kind != DELAY) {
                return true;
            }
            return !delay.hits(packet.wait, time, queue.packets == 0) || takesMark(packet);
        }

        private boolean takesMark(Packet packet) {
            // It may bear a mark already, from when the class was of the other kind.
            if (packet.markable && !packet.marked) {
                packet.marked = true;
                marked++;
            }
            return packet.markable;
        }
    }

    /** What a class of the kind MEAN has. */
    private static final class Mean {
        private static final int MOST_EMPTY_TICKS = 100;

        double low = 5.0;
        double high = 15.0;
        double top = 0.1;
        double weight = 0.25;
        double average = 0.0;
        int count = -1;
        int emptySince = 0;

        void tell(double low, double high, double top, double weight) {
            this.low = low;
            this.high = high;
            this.top = top;
            this.weight = weight;
        }

        void restart(int time) {
            average = 0.0;
            count = -1;
            emptySince = time;
        }

        void reckon(int packets, int time) {
            if (packets > 0) {
                average = average + weight * (packets - average);
                return;
            }
            int ticks = Math.min(time - emptySince, MOST_EMPTY_TICKS);
            for (int done = 0; done < ticks; done++) {
                average = average * (1.0 - weight);
            }
            emptySince = time;
        }

        /** Whether the average is so high that even a packet that could be marked goes. */
        boolean refuses() {
            if (average < high) {
                return false;
            }
            count = 0;
            return true;
        }

        /** Asked where the average is below HIGH. */
        boolean hits(Coins coins) {
            if (average < low) {
                count = -1;
                return false;
            }
            count++;
            double p = top * (average - low) / (high - low);
            double d = 1.0 - count * p;
            boolean hit = d <= 0.0 || coins.use() < p / d;
            if (hit) {
                count = 0;
            }
            return hit;
        }
    }

    /** What a class of the kind DELAY has. */
    private static final class Delay {
        private static final int ROOT_STEPS = 20;

        double target = 5.0;
        double interval = 100.0;
        boolean isAbove = false;
        double above = 0.0;
        boolean drops = false;
        double next = 0.0;
        int count = 0;
        int last = 0;

        void tell(double target, double interval) {
            this.target = target;
            this.interval = interval;
        }

        // ABOVE and NEXT may keep their numbers: both are set again before they count.
        void restart() {
            isAbove = false;
            drops = false;
            count = 0;
            last = 0;
        }

        boolean hits(int wait, int time, boolean alone) {
            if (!isLate(wait, time, alone)) {
                drops = false;
                return false;
            }
            if (!drops) {
                drops = true;
                count = countToBeginWith(time);
                last = count;
                next = time + interval / root(count);
                return true;
            }
            if (time < next) {
                return false;
            }
            count++;
            next = next + interval / root(count);
            return true;
        }

        private boolean isLate(int wait, int time, boolean alone) {
            if (wait < target || alone) {
                isAbove = false;
                return false;
            }
            if (!isAbove) {
                isAbove = true;
                above = time + interval;
                return false;
            }
            return time >= above;
        }

        private int countToBeginWith(int time) {
            int more = count - last;
            return more > 1 && time - next < 16.0 * interval ? more : 1;
        }

        private static double root(int n) {
            double r = n;
            for (int step = 0; step < ROOT_STEPS && r > 0.0; step++) {
                r = (r + n / r) / 2.0;
            }
            return r;
        }
    }

    /** The classes that have packets, in the order of their turns. */
    private static final class Turns {
        Flow first = null;
        private Flow last = null;
        private boolean begun = false;

        void join(Flow flow) {
            if (last == null) {
                first = flow;
            } else {
                last.behind = flow;
            }
            last = flow;
        }

        void begin() {
            if (first != null && !begun) {
                first.deficit += first.quantum;
                begun = true;
            }
        }

        /** Ends the turn of the first class, which stays, as the last. */
        void passOn() {
            Flow flow = takeFirst();
            if (flow != null) {
                join(flow);
            }
        }

        /** Ends the turn of the first class, which is there no more. */
        void leave() {
            Flow flow = takeFirst();
            if (flow != null) {
                flow.deficit = 0;
            }
        }

        Flow flowAfter(int others) {
            Flow flow = others < 0 ? null : first;
            for (int passed = 0; passed < others && flow != null; passed++) {
                flow = flow.behind;
            }
            return flow;
        }

        private Flow takeFirst() {
            Flow flow = first;
            if (flow == null) {
                return null;
            }
            first = flow.behind;
            if (first == null) {
                last = null;
            }
            flow.behind = null;
            begun = false;
            return flow;
        }
    }

    /** The coins that were told and are not used yet, in a row that is used round and round. */
    private static final class Coins {
        private static final int MOST = 64;

        private final double[] row = new double[MOST];
        private int told = 0;
        private int used = 0;

        int waiting() {
            return told - used;
        }

        boolean isFull() {
            return waiting() >= MOST;
        }

        void add(double coin) {
            row[place(told)] = coin;
            told++;
        }

        double use() {
            if (waiting() <= 0) {
                return 0.5;
            }
            double coin = row[place(used)];
            used++;
            return coin;
        }

        // MOST is a power of two, so that the mask keeps every number within the row.
        private static int place(int nth) {
            return nth & (MOST - 1);
        }
    }

    /** The packets that were sent last, in a row that is used round and round. */
    private static final class Outlog {
        private static final int MOST = 32;

        private final Packet[] row = new Packet[MOST];
        private int nth = 0;

        void add(Packet packet) {
            nth++;
            row[place(nth)] = packet;
        }

        /** The k-th last, or null if there is none such. */
        Packet lastBut(int k) {
            return k >= 0 && k < MOST ? row[place(nth - k)] : null;
        }

        // MOST is a power of two, so that the mask keeps every number within the row.
        private static int place(int nth) {
            return nth & (MOST - 1);
        }
    }
}
