/** The document's face, so that one test may ask the program and the model the same. */
interface Face {
    void kind(int i, int kind, int quantum);
    void mean(int i, double low, double high, double top, double weight);
    void delay(int i, double target, double interval);
    void link(double rate, int limit);
    int coin(double coin);
    int come(int i, int bytes, boolean markable);
    int tick(int many);
    int count(int i, int what);
    double average(int i);
    double next(int i);
    double free();
    int sent(int k, int what);
    int round(int k);
    int clock();

    static Face ofProgram() {
        return of(new LinkQueues());
    }

    /** The program behind the face. */
    static Face of(LinkQueues x) {
        return new Face() {
            public void kind(int i, int kind, int quantum) { x.kind(i, kind, quantum); }
            public void mean(int i, double low, double high, double top, double weight) { x.mean(i, low, high, top, weight); }
            public void delay(int i, double target, double interval) { x.delay(i, target, interval); }
            public void link(double rate, int limit) { x.link(rate, limit); }
            public int coin(double coin) { return x.coin(coin); }
            public int come(int i, int bytes, boolean markable) { return x.come(i, bytes, markable); }
            public int tick(int many) { return x.tick(many); }
            public int count(int i, int what) { return x.count(i, what); }
            public double average(int i) { return x.average(i); }
            public double next(int i) { return x.next(i); }
            public double free() { return x.free(); }
            public int sent(int k, int what) { return x.sent(k, what); }
            public int round(int k) { return x.round(k); }
            public int clock() { return x.clock(); }
        };
    }

    /** All that can be asked without changing anything. */
    default String state() {
        StringBuilder text = new StringBuilder("clock " + clock() + ", free " + free());
        for (int i = 0; i < 6; i++) {
            text.append("\nclass ").append(i).append(':');
            for (int what = 0; what < 10; what++) {
                text.append(' ').append(count(i, what));
            }
            text.append(", average ").append(average(i)).append(", next ").append(next(i));
        }
        text.append("\nround:");
        for (int k = 0; k < 6; k++) {
            text.append(' ').append(round(k));
        }
        for (int k = 0; k < 32; k++) {
            text.append("\nsent ").append(k).append(':');
            for (int what = 0; what < 5; what++) {
                text.append(' ').append(sent(k, what));
            }
        }
        return text.toString();
    }
}
