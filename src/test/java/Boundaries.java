/** What the groups of tests of the boundary cases have in common. */
abstract class Boundaries {
    static final Class<? extends RuntimeException> ARGUMENT = IllegalArgumentException.class;
    static final Class<? extends RuntimeException> STATE = IllegalStateException.class;

    final Sentences say;

    Boundaries(Sentences say) {
        this.say = say;
    }

    abstract void test();

    void all(Runnable... tests) {
        for (Runnable test : tests) {
            say.run(test);
        }
    }

    static void comeMany(LinkQueues x, int i, int many, int bytes) {
        for (int k = 0; k < many; k++) {
            x.come(i, bytes, false);
        }
    }

    static void tellCoins(LinkQueues x, double... coins) {
        for (double coin : coins) {
            x.coin(coin);
        }
    }

    /** How many coins waited; one more does then. */
    static int coinsThatWaited(LinkQueues x) {
        return x.coin(0.9) - 1;
    }

    /** A class 0 of the kind MEAN whose average is just how many packets are in its queue. */
    static LinkQueues exactMean(double low, double high, double top) {
        LinkQueues x = new LinkQueues();
        x.kind(0, 1, 1500);
        x.mean(0, low, high, top, 1.0);
        return x;
    }

    void dueCounts(String when, LinkQueues x, int i, int... want) {
        for (int what = 0; what < want.length; what++) {
            say.due(when + ": count(" + i + ", " + what + ")", x.count(i, what), want[what]);
        }
    }

    void dueSent(String when, LinkQueues x, int k, int... want) {
        for (int what = 0; what < want.length; what++) {
            say.due(when + ": sent(" + k + ", " + what + ")", x.sent(k, what), want[what]);
        }
    }

    void dueNumbers(String when, LinkQueues x, int... newestFirst) {
        for (int k = 0; k < newestFirst.length; k++) {
            say.due(when + ": sent(" + k + ", 0)", x.sent(k, 0), newestFirst[k]);
        }
    }

    void dueRound(String when, LinkQueues x, int... classes) {
        for (int k = 0; k < classes.length; k++) {
            say.due(when + ": round(" + k + ")", x.round(k), classes[k]);
        }
        say.due(when + ": no more in the round", x.round(classes.length), -1);
    }
}
