/** What the tests share: compares answers, tells the wrong ones, ends with 1 if there was one. */
final class Checks {
    static final long REFUSED = (1L << 40) - 1;
    static final long NONE = (1L << 40) - 2;
    static final long GONE = (1L << 40) - 4;

    private int made = 0;
    private int wrong = 0;
    private String sentence = "";

    /** The KEYS 0, 2, 4 to 798, in few calls: an object is good for 512 alone. */
    static RevisionTree full() {
        RevisionTree x = new RevisionTree();
        for (int i = 0; i < 360; i += 60) {
            x.some(2 * i, 2, 60, i);
        }
        x.some(720, 2, 40, 360);
        return x;
    }

    /**
     * Revisions 0 to 3 with KEYS 1 to their number, reader r on revision r (so reader 0 is gone),
     * and other KEYS worked on: what a call does by mistake to any of them can be seen.
     */
    static RevisionTree busy() {
        RevisionTree x = new RevisionTree();
        for (int r = 1; r <= 3; r++) {
            x.put(r, 10 * r, 100 + r);
            x.commit(-1);
            x.open(r);
        }
        x.remove(1);
        x.put(2, 21, 201);
        x.put(4, 40, 104);
        x.put(5, 50, 105);
        return x;
    }

    /** What the reads show of an object; the same text before and after if nothing changed. */
    static String shown(RevisionTree x, int... keys) {
        StringBuilder text = new StringBuilder();
        for (int r = -1; r <= 3; r++) {
            text.append(" reader ").append(r).append(": ").append(x.count(r));
            text.append(" keys, digest ").append(x.digest(r));
            for (int k : keys) {
                text.append(", ").append(k).append(" has ").append(x.get(r, k));
                text.append('/').append(x.size(r, k)).append('/').append(x.next(r, k));
            }
        }
        return text.toString();
    }

    /** The words of the document that the next answers are due to. */
    void sentence(String words) {
        sentence = words + " | ";
    }

    void due(String call, long want, long got) {
        made++;
        if (got != want) {
            wrong++;
            System.out.println(sentence + call + " answered " + got + ", due is " + want);
        }
    }

    void same(String after, String want, String got) {
        made++;
        if (!got.equals(want)) {
            wrong++;
            System.out.println(sentence + after + " shows" + got + ", due is" + want);
        }
    }

    void close() {
        System.out.println(made + " answers looked at, " + wrong + " wrong");
        if (wrong != 0 || made == 0) {
            System.exit(1);
        }
    }
}
