/** The boundary cases of the link, the clock, the round and its turns. */
final class LinkBoundaries extends Boundaries {
    LinkBoundaries(Sentences say) {
        super(say);
    }

    @Override
    void test() {
        all(
            this::clockAtFirst, this::clockToTheLastCall, this::freeAtFirst, this::freeAtTheClock,
            this::freeJustAboveTheClock, this::freeGoesOnFromItself, this::freeStays, this::freeFromTheLeftOn,
            this::nothingToSend, this::nothingToSendButNotFree, this::hundredInOneTick, this::firstRate,
            this::leastRate, this::greatestRate, this::rateOfTheNextPacket, this::ticksCountWhatWasSent,
            this::emptyRound, this::roundOfAll, this::roundInTheOrderOfHaving, this::noSuchPlace, this::firstQuantum,
            this::leastQuantum, this::greatestQuantum, this::deficitGrowsOnceATurn, this::deficitIsZeroWhenItComes,
            this::asManyBytesAsDeficit, this::oneByteMoreThanDeficit, this::turnEndsWithAnEmptyQueue,
            this::quantumFromTheNextTurnOn, this::oneClassAlone
        );
    }

    // The clock and the link

    private void clockAtFirst() {
        say.sentence(15, "THE CLOCK is a whole number of ticks, 0 at first.");
        LinkQueues x = new LinkQueues();
        say.due("at first", x.clock(), 0);
        x.come(0, 1500, false);
        x.kind(1, 2, 1);
        say.due("other calls are no ticks", x.clock(), 0);
        x.tick(1);
        say.due("one tick", x.clock(), 1);
        x.tick(1000);
        say.due("1001 ticks", x.clock(), 1001);
        say.refused("tick(1001)", ARGUMENT, () -> x.tick(1001));
        say.due("a refused call is no tick", x.clock(), 1001);
    }

    private void clockToTheLastCall() {
        say.sentence(15, "THE CLOCK.");
        LinkQueues x = new LinkQueues();
        for (int k = 0; k < 510; k++) {
            x.tick(1000);
        }
        say.due("as far as 512 calls reach", x.clock(), 510000);
        say.due("FREE", x.free(), 510000.0);
    }

    private void freeAtFirst() {
        say.sentence(12, "the link is free from a time FREE on (0.0 at first), a double");
        LinkQueues x = new LinkQueues();
        say.due("at first", x.free(), 0.0);
        comeMany(x, 0, 2, 125);
        say.due("not before a tick", x.free(), 0.0);
        x.tick(1);
        say.due("from 0.0 on, not from the tick on", x.free(), 1.25);
    }

    private void freeAtTheClock() {
        say.sentence(8, "then, as long as FREE is not above the CLOCK: a PACKET is CHOSEN");
        LinkQueues x = new LinkQueues();
        comeMany(x, 0, 5, 100);
        say.due("FREE is 0.0, then 1.0, then 2.0", x.tick(1), 2);
        say.due("FREE", x.free(), 2.0);
        say.due("FREE is just the clock", x.tick(1), 1);
        say.due("FREE then", x.free(), 3.0);
    }

    private void freeJustAboveTheClock() {
        say.sentence(8, "as long as FREE is not above the CLOCK");
        LinkQueues x = new LinkQueues();
        x.link(Math.nextDown(100.0), 1000000);
        comeMany(x, 0, 3, 100);
        say.due("FREE is just above 1", x.tick(1), 1);
        say.due("it is", x.free(), Math.nextUp(1.0));
        say.due("a tick later", x.tick(1), 1);
        LinkQueues y = new LinkQueues();
        y.link(Math.nextUp(100.0), 1000000);
        comeMany(y, 0, 3, 100);
        say.due("FREE is just below 1", y.tick(1), 2);
    }

    private void freeGoesOnFromItself() {
        say.sentence(12, "else it is SENT, and FREE becomes FREE + bytes / RATE.");
        LinkQueues x = new LinkQueues();
        comeMany(x, 0, 4, 150);
        double[] due = {1.5, 3.0, 4.5, 4.5, 6.0};
        for (int k = 0; k < due.length; k++) {
            say.due("sent at " + (k + 1), x.tick(1), k == 3 ? 0 : 1);
            say.due("FREE at " + (k + 1), x.free(), due[k]);
        }
    }

    private void freeStays() {
        say.sentence(12, "FREE.");
        LinkQueues x = new LinkQueues();
        x.come(0, 1500, false);
        x.tick(1);
        say.due("until when the link is busy", x.free(), 15.0);
        x.come(0, 1500, false);
        x.link(1.0, 1);
        x.kind(0, 1, 1);
        say.due("other calls leave it", x.free(), 15.0);
        say.refused("tick(0)", ARGUMENT, () -> x.tick(0));
        say.due("a refused call leaves it", x.free(), 15.0);
        x.tick(13);
        say.due("so do ticks before it", x.free(), 15.0);
    }

    private void freeFromTheLeftOn() {
        say.sentence(12, "Numbers in doubles are reckoned just as written here");
        LinkQueues x = new LinkQueues();
        x.link(10.0, 1000000);
        comeMany(x, 0, 12, 1);
        say.due("eleven tenths", x.tick(1), 11);
        say.due("one by one they are less than 1.1", x.free(), 1.0999999999999999);
    }

    private void nothingToSend() {
        say.sentence(8, "if there is none, FREE is the CLOCK, and that is all for this tick");
        LinkQueues x = new LinkQueues();
        say.due("an empty object", x.tick(1), 0);
        say.due("FREE", x.free(), 1.0);
        x.come(0, 50, false);
        say.due("one of half a tick", x.tick(1), 1);
        say.due("FREE is not 1.5", x.free(), 2.0);
        x.tick(1000);
        say.due("FREE after many", x.free(), 1002.0);
    }

    private void nothingToSendButNotFree() {
        say.sentence(12, "With each tick the CLOCK is one more; then, as long as FREE is not above the CLOCK");
        LinkQueues x = new LinkQueues();
        x.come(0, 250, false);
        double[] due = {2.5, 2.5, 3.0, 4.0};
        for (int k = 0; k < due.length; k++) {
            x.tick(1);
            say.due("FREE at " + (k + 1), x.free(), due[k]);
            say.due("the clock", x.clock(), k + 1);
        }
    }

    private void hundredInOneTick() {
        say.sentence(8, "how many PACKETS were SENT.");
        LinkQueues x = new LinkQueues();
        x.link(10000.0, 1000000);
        for (int k = 0; k < 100; k++) {
            x.come(k % 6, 1, false);
        }
        say.due("a full buffer at once", x.tick(1), 100);
        dueRound("none is left", x);
        say.due("FREE is the clock then", x.free(), 1.0);
    }

    private void firstRate() {
        say.sentence(1, "its RATE (100.0 at first) are bytes a tick.");
        LinkQueues x = new LinkQueues();
        x.come(0, 1500, false);
        x.tick(1);
        say.due("1500 bytes", x.free(), 15.0);
    }

    private void leastRate() {
        say.sentence(5, "not 0.125 <= rate");
        LinkQueues x = new LinkQueues();
        x.link(0.125, 1000000);
        x.come(0, 1500, false);
        x.come(0, 1, false);
        say.due("the first", x.tick(1), 1);
        say.due("12000 ticks", x.free(), 12000.0);
        for (int k = 0; k < 11; k++) {
            say.due("none goes", x.tick(1000), 0);
        }
        say.due("none until 11999", x.tick(998), 0);
        say.due("one at 12000", x.tick(1), 1);
        say.due("eight ticks more", x.free(), 12008.0);
    }

    private void greatestRate() {
        say.sentence(5, "rate <= 10,000.0");
        LinkQueues x = new LinkQueues();
        x.link(10000.0, 1000000);
        comeMany(x, 0, 9, 1250);
        say.due("FREE is 1.0 behind the eighth", x.tick(1), 9);
        say.due("FREE", x.free(), 1.125);
    }

    private void rateOfTheNextPacket() {
        say.sentence(5, "FREE becomes FREE + bytes / RATE");
        LinkQueues x = new LinkQueues();
        comeMany(x, 0, 2, 200);
        x.tick(1);
        x.link(50.0, 1000000);
        say.due("what was sent is not reckoned again", x.free(), 2.0);
        x.tick(1);
        say.due("the next is", x.free(), 6.0);
    }

    private void ticksCountWhatWasSent() {
        say.sentence(8, "So many ticks, 1 .. 1000: how many PACKETS were SENT.");
        LinkQueues x = new LinkQueues();
        x.kind(0, 2, 1500);
        x.delay(0, 1.0, 1.0);
        comeMany(x, 0, 4, 101);
        say.due("of four one is lost to the delay", x.tick(10), 3);
        say.due("lost", x.count(0, 4), 1);
        say.due("none waits", x.tick(1000), 0);
    }

    // The round

    private void emptyRound() {
        say.sentence(14, "The class at place k of the ROUND, from 0 on; NONE if there is none.");
        LinkQueues x = new LinkQueues();
        dueRound("a new object", x);
        x.come(4, 100, false);
        dueRound("one class", x, 4);
        x.tick(1);
        dueRound("all went", x);
    }

    private void roundOfAll() {
        say.sentence(14, "from 0 on; NONE if there is none.");
        LinkQueues x = new LinkQueues();
        for (int i = 5; i >= 0; i--) {
            x.come(i, 100, false);
            x.come(i, 100, false);
        }
        dueRound("all six", x, 5, 4, 3, 2, 1, 0);
    }

    private void roundInTheOrderOfHaving() {
        say.sentence(14, "CHOSEN: the classes that have PACKETS are in a ROUND, in the order in which they came to have some. The first class of it has its TURN.");
        LinkQueues x = new LinkQueues();
        x.link(100.0, 300);
        x.come(3, 100, false);
        x.come(2, 301, false);
        x.come(1, 100, false);
        x.come(3, 100, false);
        dueRound("one that lost all is not in it, and one is in it once", x, 3, 1);
        x.tick(1);
        dueRound("3 went", x, 1);
        x.come(3, 100, false);
        dueRound("3 is last now", x, 1, 3);
    }

    private void noSuchPlace() {
        say.sentence(14, "NONE if there is none.");
        LinkQueues x = new LinkQueues();
        for (int i = 0; i < 6; i++) {
            x.come(i, 100, false);
        }
        for (int k : new int[] {-1, 6, 7, Integer.MIN_VALUE, Integer.MAX_VALUE}) {
            say.due("round(" + k + ")", x.round(k), -1);
        }
        say.due("round(5)", x.round(5), 5);
    }

    // Quantum, deficit and turns

    private void firstQuantum() {
        say.sentence(1, "a QUANTUM of 1 .. 3000 bytes (1500 at first)");
        for (int i = 0; i < 6; i++) {
            LinkQueues x = new LinkQueues();
            x.come(i, 101, false);
            x.come(i, 1500, false);
            x.tick(1);
            say.due("of class " + i, x.count(i, 9), 1399);
        }
    }

    private void leastQuantum() {
        say.sentence(2, "A class has this KIND from now on, and this QUANTUM");
        LinkQueues x = new LinkQueues();
        x.kind(0, 0, 1);
        x.come(0, 1500, false);
        x.come(1, 1500, false);
        x.come(1, 1500, false);
        x.tick(1);
        dueNumbers("1500 turns are needed, the other class needs one", x, 1, -1);
        say.due("one byte a turn", x.count(0, 9), 1);
        x.tick(15);
        dueNumbers("and one more", x, 2, 1);
        x.tick(15);
        dueNumbers("then it goes", x, 0, 2, 1);
        LinkQueues y = new LinkQueues();
        for (int i = 0; i < 6; i++) {
            y.kind(i, 0, 1);
            y.come(i, 1500, false);
        }
        say.due("1500 turns of all classes in one tick", y.tick(1), 1);
        say.due("the others", y.tick(89), 5);
        dueNumbers("in the order of the round", y, 5, 4, 3, 2, 1, 0);
    }

    private void greatestQuantum() {
        say.sentence(2, "and this QUANTUM");
        LinkQueues x = new LinkQueues();
        x.kind(0, 0, 3000);
        comeMany(x, 0, 3, 1500);
        x.come(1, 1, false);
        x.tick(16);
        say.due("two in a turn", x.count(0, 9), 0);
        dueNumbers("two in a turn", x, 1, 0);
        x.tick(15);
        dueNumbers("the third behind the other class", x, 2, 3, 1, 0);
    }

    private void deficitGrowsOnceATurn() {
        say.sentence(9, "When a TURN begins, its DEFICIT (0 when it comes into the ROUND) is greater by its QUANTUM.");
        LinkQueues x = new LinkQueues();
        comeMany(x, 0, 10, 200);
        say.due("no turn has begun", x.count(0, 9), 0);
        for (int due : new int[] {1300, 1100, 900, 700, 500, 300, 100}) {
            x.tick(x.clock() == 0 ? 1 : 2);
            say.due("the turn goes on", x.count(0, 9), due);
        }
        x.tick(2);
        say.due("the next turn", x.count(0, 9), 1400);
    }

    private void deficitIsZeroWhenItComes() {
        say.sentence(9, "9 DEFICIT (0 if it is not in the ROUND)");
        LinkQueues x = new LinkQueues();
        x.come(0, 100, false);
        x.tick(5);
        say.due("it left with 1400", x.count(0, 9), 0);
        x.come(0, 200, false);
        x.come(0, 1500, false);
        say.due("it comes again", x.count(0, 9), 0);
        x.tick(1);
        say.due("its first turn", x.count(0, 9), 1300);
        say.due("another class", x.count(1, 9), 0);
    }

    private void asManyBytesAsDeficit() {
        say.sentence(14, "If the first PACKET of its queue has no more bytes than DEFICIT, it is taken out, and its bytes from DEFICIT");
        LinkQueues x = new LinkQueues();
        x.kind(0, 0, 500);
        x.come(0, 200, false);
        x.come(0, 300, false);
        x.come(0, 1, false);
        x.come(1, 1, false);
        x.tick(1);
        say.due("300 are left", x.count(0, 9), 300);
        x.tick(1);
        dueNumbers("just as many go", x, 1, 0);
        say.due("none is left", x.count(0, 9), 0);
        dueRound("its turn ends with the next look only", x, 0, 1);
        x.tick(4);
        dueNumbers("the other class, then the last", x, 2, 3, 1, 0);
    }

    private void oneByteMoreThanDeficit() {
        say.sentence(14, "else the TURN ends, and the class is last in the ROUND (with its DEFICIT).");
        LinkQueues x = new LinkQueues();
        x.kind(0, 0, 500);
        x.come(0, 200, false);
        x.come(0, 301, false);
        x.come(1, 1000, false);
        x.come(1, 1000, false);
        x.tick(2);
        dueNumbers("one byte more stays", x, 2, 0);
        dueRound("at 2", x, 1, 0);
        say.due("with its DEFICIT", x.count(0, 9), 300);
        x.tick(10);
        dueNumbers("its next turn", x, 1, 2, 0);
        dueRound("at 12", x, 1);
        say.due("the other class kept 500", x.count(1, 9), 500);
    }

    private void turnEndsWithAnEmptyQueue() {
        say.sentence(14, "If its queue is empty then, it leaves the ROUND, and the TURN ends.");
        LinkQueues x = new LinkQueues();
        x.come(0, 100, false);
        x.come(1, 100, false);
        x.tick(1);
        dueRound("both went", x);
        x.tick(1);
        x.come(0, 200, false);
        x.come(0, 1400, false);
        x.tick(1);
        dueRound("it is there again", x, 0);
        say.due("with a turn of its own", x.count(0, 9), 1300);

        LinkQueues y = new LinkQueues();
        y.come(0, 150, false);
        y.come(1, 100, false);
        y.come(1, 1450, false);
        y.tick(1);
        y.come(0, 100, false);
        dueRound("0 left and is last", y, 1, 0);
        say.due("the turn of 1 has not begun", y.count(1, 9), 0);
        y.tick(1);
        say.due("it begins", y.count(1, 9), 1400);
        y.tick(1);
        dueNumbers("1450 bytes are too many", y, 3, 1, 0);
    }

    private void quantumFromTheNextTurnOn() {
        say.sentence(2, "and its PACKETS, stay");
        LinkQueues x = new LinkQueues();
        comeMany(x, 0, 3, 1000);
        x.tick(1);
        x.kind(0, 0, 600);
        say.due("DEFICIT", x.count(0, 9), 500);
        dueRound("the round", x, 0);
        say.due("packets", x.count(0, 6), 2);
        x.tick(10);
        say.due("500 and 600", x.count(0, 9), 100);
        x.tick(10);
        say.due("it left", x.count(0, 9), 0);
    }

    private void oneClassAlone() {
        say.sentence(8, "the TURN ends, and the class is last in the ROUND");
        LinkQueues x = new LinkQueues();
        x.kind(2, 0, 1);
        x.come(2, 1500, false);
        x.come(2, 2, false);
        say.due("1500 turns in one tick", x.tick(1), 1);
        say.due("nothing is left of them", x.count(2, 9), 0);
        say.due("and two more", x.tick(15), 1);
    }
}
