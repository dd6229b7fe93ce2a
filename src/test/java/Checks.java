/** What the tests share: compares answers, tells the wrong ones, ends with 1 if there was one. */
final class Checks {
    static final long REFUSED = (1L << 40) - 1;
    static final long NONE = (1L << 40) - 2;
    static final long GONE = (1L << 40) - 4;

    private int made = 0;
    private int wrong = 0;

    /** The KEYS 0, 2, 4 to 798, in few calls: an object is good for 512 alone. */
    static RevisionTree full() {
        RevisionTree x = new RevisionTree();
        for (int i = 0; i < 360; i += 60) {
            x.some(2 * i, 2, 60, i);
        }
        x.some(720, 2, 40, 360);
        return x;
    }

    void due(String call, long want, long got) {
        made++;
        if (got != want) {
            wrong++;
            System.out.println(call + " answered " + got + ", due is " + want);
        }
    }

    void close() {
        System.out.println(made + " answers looked at, " + wrong + " wrong");
        if (wrong != 0 || made == 0) {
            System.exit(1);
        }
    }
}
