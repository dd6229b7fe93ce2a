/** The boundary cases that promises 8 to 12 name, a test for each. */
public final class ReadsEdgesTest {
    private static final Checks CHECKS = new Checks();
    private static final int LEAST = Integer.MIN_VALUE;
    private static final int GREATEST = Integer.MAX_VALUE;
    private static final int[] NO_READERS = {-2, 4, -3, 5, LEAST, GREATEST};

    public static void main(String[] args) {
        getOfReadersMinus1To3();
        getRefused();
        getGone();
        getNone();
        getRefusedBeforeGoneBeforeNone();
        getTheExtremeValues();
        nextOfReadersMinus1To3();
        nextRefused();
        nextGone();
        nextNone();
        nextIsAboveAndTheLeast();
        nextAtTheExtremeKeys();
        sizeOfReadersMinus1To3();
        sizeRefused();
        sizeGone();
        sizeNone();
        sizeRefusedBeforeGoneBeforeNone();
        countOfReadersMinus1To3();
        countRefused();
        countGone();
        countFrom0To400();
        digestOfReadersMinus1To3();
        digestRefused();
        digestGone();
        digestWithoutKeys();
        digestByRisingKeys();
        digestWraps();
        digestOf400Keys();
        readsChangeNothing();
        CHECKS.close();
    }

    private static void due(String call, long want, long got) {
        CHECKS.due(call, want, got);
    }

    /** Reader r is on revision r + 1 of 4: reader 0's is the last that is gone. */
    private static RevisionTree oneGone() {
        RevisionTree x = new RevisionTree();
        for (int r = 0; r <= 3; r++) {
            x.put(1, 10 + r, 100 + r);
            x.put(2 + r, 0, 0);
            x.commit(-1);
            x.open(r);
        }
        x.put(1, 99, 299);
        x.put(6, 0, 0);
        return x;
    }

    private static void getOfReadersMinus1To3() {
        CHECKS.sentence("P8: The VALUE of KEY k for reader r");
        RevisionTree x = oneGone();
        due("get(-1, 1)", 99, x.get(-1, 1));
        due("get(0, 1)", Checks.GONE, x.get(0, 1));
        due("get(1, 1)", 11, x.get(1, 1));
        due("get(2, 1)", 12, x.get(2, 1));
        due("get(3, 1)", 13, x.get(3, 1));
        due("reader 0 on a new object", Checks.NONE, new RevisionTree().get(0, 1));
    }

    private static void getRefused() {
        CHECKS.sentence("P8: 2^40 + REFUSED for r not -1 to 3");
        RevisionTree x = oneGone();
        for (int r : NO_READERS) {
            due("get(" + r + ", 1)", 1099511627775L, x.get(r, 1));
            due("on a new object", 1099511627775L, new RevisionTree().get(r, 1));
        }
        due("get(-1, 1)", 99, x.get(-1, 1));
        due("get(3, 1)", 13, x.get(3, 1));
    }

    private static void getGone() {
        CHECKS.sentence("P8: else 2^40 + GONE if it can be read no more");
        for (int r = 0; r <= 3; r++) {
            RevisionTree x = new RevisionTree();
            x.put(1, 10, 100);
            x.commit(-1);
            x.open(r);
            x.commit(-1);
            x.commit(-1);
            due("the third latest", 10, x.get(r, 1));
            x.commit(-1);
            due("the fourth latest", 1099511627772L, x.get(r, 1));
            due("-1 goes on", 10, x.get(-1, 1));
            x.open(r);
            due("opened again", 10, x.get(r, 1));
        }
    }

    private static void getNone() {
        CHECKS.sentence("P8: else 2^40 + NONE if it has none");
        RevisionTree x = oneGone();
        due("no KEYS at all", 1099511627774L, new RevisionTree().get(-1, 0));
        int[] others = {0, 7, -1, LEAST, GREATEST};
        for (int k : others) {
            due("get(-1, " + k + ")", 1099511627774L, x.get(-1, k));
            due("get(3, " + k + ")", 1099511627774L, x.get(3, k));
        }
        due("the last that it has", 0, x.get(-1, 6));
        due("worked on alone", 1099511627774L, x.get(3, 6));
        due("the last of reader 3", 0, x.get(3, 5));
        due("committed behind reader 2's", 1099511627774L, x.get(2, 5));
        x.remove(1);
        due("removed", 1099511627774L, x.get(-1, 1));
        due("removed behind reader 3's", 13, x.get(3, 1));
    }

    private static void getRefusedBeforeGoneBeforeNone() {
        CHECKS.sentence("P8: REFUSED for r not -1 to 3; else GONE; else NONE");
        RevisionTree x = oneGone();
        due("refused, and none", Checks.REFUSED, x.get(4, 77));
        due("refused, and none", Checks.REFUSED, x.get(-2, 77));
        due("gone, and none", Checks.GONE, x.get(0, 77));
        due("gone, though it was there", Checks.GONE, x.get(0, 2));
        due("none", Checks.NONE, x.get(1, 77));
    }

    private static void getTheExtremeValues() {
        CHECKS.sentence("P8: The VALUE of KEY k for reader r");
        RevisionTree x = new RevisionTree();
        int[] values = {LEAST, GREATEST, -1, -2, -4, 0};
        for (int value : values) {
            x.put(LEAST, value, 0);
            x.put(GREATEST, value, 300);
            x.commit(-1);
            x.open(2);
            due("of the least KEY", value, x.get(-1, LEAST));
            due("of the greatest KEY", value, x.get(2, GREATEST));
        }
    }

    private static void nextOfReadersMinus1To3() {
        CHECKS.sentence("P9: The least KEY above k for reader r");
        RevisionTree x = oneGone();
        x.remove(1);
        due("next(-1, 0)", 2, x.next(-1, 0));
        due("next(0, 0)", Checks.GONE, x.next(0, 0));
        due("next(1, 0)", 1, x.next(1, 0));
        due("next(-1, 5)", 6, x.next(-1, 5));
        due("next(1, 3)", Checks.NONE, x.next(1, 3));
        due("next(2, 3)", 4, x.next(2, 3));
        due("next(2, 4)", Checks.NONE, x.next(2, 4));
        due("next(3, 4)", 5, x.next(3, 4));
        due("next(3, 5)", Checks.NONE, x.next(3, 5));
    }

    private static void nextRefused() {
        CHECKS.sentence("P9: else as for get, REFUSED");
        RevisionTree x = oneGone();
        for (int r : NO_READERS) {
            due("next(" + r + ", 0)", 1099511627775L, x.next(r, 0));
            due("none above", 1099511627775L, x.next(r, GREATEST));
            due("on a new object", 1099511627775L, new RevisionTree().next(r, 0));
        }
        due("next(-1, 0)", 1, x.next(-1, 0));
        due("next(3, 0)", 1, x.next(3, 0));
    }

    private static void nextGone() {
        CHECKS.sentence("P9: else as for get, GONE");
        for (int r = 0; r <= 3; r++) {
            RevisionTree x = new RevisionTree();
            x.put(1, 10, 100);
            x.commit(-1);
            x.open(r);
            x.commit(-1);
            x.commit(-1);
            due("the third latest", 1, x.next(r, 0));
            x.commit(-1);
            due("the fourth latest", 1099511627772L, x.next(r, 0));
            due("gone, and none above", 1099511627772L, x.next(r, 1));
            due("-1 goes on", 1, x.next(-1, 0));
            x.open(r);
            due("opened again", 1, x.next(r, 0));
        }
    }

    private static void nextNone() {
        CHECKS.sentence("P9: else as for get, NONE");
        RevisionTree x = oneGone();
        due("no KEYS at all", 1099511627774L, new RevisionTree().next(-1, LEAST));
        due("below the last", 6, x.next(-1, 5));
        due("from the last", 1099511627774L, x.next(-1, 6));
        due("above the last", 1099511627774L, x.next(-1, 7));
        due("above all ints", 1099511627774L, x.next(-1, GREATEST));
        RevisionTree full = Checks.full();
        due("below the last of 400", 798, full.next(-1, 797));
        due("from the last of 400", 1099511627774L, full.next(-1, 798));
    }

    private static void nextIsAboveAndTheLeast() {
        CHECKS.sentence("P9: The least KEY above k for reader r");
        RevisionTree x = new RevisionTree();
        x.some(-30, 10, 7, 0);
        for (int k = -30; k < 30; k += 10) {
            due("from just below " + k, k, x.next(-1, k - 1));
            due("from " + k, k + 10, x.next(-1, k));
            due("from just above " + k, k + 10, x.next(-1, k + 1));
        }
        x.remove(0);
        due("over a removed one", 10, x.next(-1, -10));
        due("from a removed one", 10, x.next(-1, 0));
    }

    private static void nextAtTheExtremeKeys() {
        CHECKS.sentence("P9: The least KEY above k for reader r");
        RevisionTree x = new RevisionTree();
        x.put(LEAST, 0, 0);
        due("the least is above none", Checks.NONE, x.next(-1, LEAST));
        due("nothing wraps", Checks.NONE, x.next(-1, GREATEST));
        x.put(GREATEST, 0, 0);
        due("from the least", GREATEST, x.next(-1, LEAST));
        due("from below the greatest", GREATEST, x.next(-1, GREATEST - 1));
        due("from the greatest", Checks.NONE, x.next(-1, GREATEST));
        x.put(LEAST + 1, 0, 0);
        due("just above the least", LEAST + 1, x.next(-1, LEAST));
        x.put(-1, 0, 0);
        x.put(0, 0, 0);
        due("over 0 from below", -1, x.next(-1, -2));
        due("to 0", 0, x.next(-1, -1));
        due("from 0", GREATEST, x.next(-1, 0));
    }

    private static void sizeOfReadersMinus1To3() {
        CHECKS.sentence("P10: The SIZE of KEY k for reader r");
        RevisionTree x = oneGone();
        due("size(-1, 1)", 299, x.size(-1, 1));
        due("size(0, 1)", RevisionTree.GONE, x.size(0, 1));
        due("size(1, 1)", 101, x.size(1, 1));
        due("size(2, 1)", 102, x.size(2, 1));
        due("size(3, 1)", 103, x.size(3, 1));
        x.put(1, 5, 0);
        due("the least", 0, x.size(-1, 1));
        x.put(1, 5, 300);
        due("the greatest", 300, x.size(-1, 1));
    }

    private static void sizeRefused() {
        CHECKS.sentence("P10: REFUSED as for get");
        RevisionTree x = oneGone();
        for (int r : NO_READERS) {
            due("size(" + r + ", 1)", RevisionTree.REFUSED, x.size(r, 1));
            due("on a new object", RevisionTree.REFUSED, new RevisionTree().size(r, 1));
        }
        due("size(-1, 1)", 299, x.size(-1, 1));
        due("size(3, 1)", 103, x.size(3, 1));
    }

    private static void sizeGone() {
        CHECKS.sentence("P10: GONE as for get");
        for (int r = 0; r <= 3; r++) {
            RevisionTree x = new RevisionTree();
            x.put(1, 10, 100);
            x.commit(-1);
            x.open(r);
            x.commit(-1);
            x.commit(-1);
            due("the third latest", 100, x.size(r, 1));
            x.commit(-1);
            due("the fourth latest", RevisionTree.GONE, x.size(r, 1));
            due("-1 goes on", 100, x.size(-1, 1));
            x.open(r);
            due("opened again", 100, x.size(r, 1));
        }
    }

    private static void sizeNone() {
        CHECKS.sentence("P10: NONE as for get");
        RevisionTree x = oneGone();
        due("no KEYS at all", RevisionTree.NONE, new RevisionTree().size(-1, 0));
        int[] others = {0, 7, LEAST, GREATEST};
        for (int k : others) {
            due("size(-1, " + k + ")", RevisionTree.NONE, x.size(-1, k));
            due("size(3, " + k + ")", RevisionTree.NONE, x.size(3, k));
        }
        due("one of SIZE 0", 0, x.size(-1, 6));
        due("worked on alone", RevisionTree.NONE, x.size(3, 6));
        x.remove(1);
        due("removed", RevisionTree.NONE, x.size(-1, 1));
        due("removed behind reader 3's", 103, x.size(3, 1));
    }

    private static void sizeRefusedBeforeGoneBeforeNone() {
        CHECKS.sentence("P10: NONE, REFUSED, GONE as for get");
        RevisionTree x = oneGone();
        due("refused, and none", RevisionTree.REFUSED, x.size(4, 77));
        due("refused, and none", RevisionTree.REFUSED, x.size(-2, 77));
        due("gone, and none", RevisionTree.GONE, x.size(0, 77));
        due("gone, though it was there", RevisionTree.GONE, x.size(0, 2));
        due("none", RevisionTree.NONE, x.size(1, 77));
    }

    private static void countOfReadersMinus1To3() {
        CHECKS.sentence("P11: How many KEYS reader r has");
        RevisionTree x = oneGone();
        due("count(-1)", 6, x.count(-1));
        due("count(0)", RevisionTree.GONE, x.count(0));
        due("count(1)", 3, x.count(1));
        due("count(2)", 4, x.count(2));
        due("count(3)", 5, x.count(3));
    }

    private static void countRefused() {
        CHECKS.sentence("P11: REFUSED as for get");
        RevisionTree x = oneGone();
        for (int r : NO_READERS) {
            due("count(" + r + ")", RevisionTree.REFUSED, x.count(r));
            due("on a new object", RevisionTree.REFUSED, new RevisionTree().count(r));
        }
        due("count(-1)", 6, x.count(-1));
        due("count(3)", 5, x.count(3));
    }

    private static void countGone() {
        CHECKS.sentence("P11: GONE as for get");
        for (int r = 0; r <= 3; r++) {
            RevisionTree x = new RevisionTree();
            x.put(1, 10, 100);
            x.commit(-1);
            x.open(r);
            x.commit(-1);
            x.commit(-1);
            due("the third latest", 1, x.count(r));
            x.commit(-1);
            due("the fourth latest", RevisionTree.GONE, x.count(r));
            due("-1 goes on", 1, x.count(-1));
            x.open(r);
            due("opened again", 1, x.count(r));
        }
    }

    private static void countFrom0To400() {
        CHECKS.sentence("P11: How many KEYS reader r has");
        RevisionTree x = new RevisionTree();
        due("none", 0, x.count(-1));
        due("none for reader 3", 0, x.count(3));
        x.put(0, 0, 0);
        due("one", 1, x.count(-1));
        RevisionTree full = Checks.full();
        due("400", 400, full.count(-1));
        due("none for reader 0", 0, full.count(0));
        full.put(1, 1, 1);
        due("400 behind the 401st", 400, full.count(-1));
        full.commit(-1);
        full.open(0);
        full.remove(0);
        due("399", 399, full.count(-1));
        due("400 for reader 0", 400, full.count(0));
    }

    private static void digestOfReadersMinus1To3() {
        CHECKS.sentence("P12: Of reader r");
        RevisionTree x = new RevisionTree();
        for (int r = 0; r <= 3; r++) {
            x.put(1, 10 + r, 100 + r);
            x.commit(-1);
            x.open(r);
        }
        x.put(1, 50, 300);
        due("digest(-1)", 31 + 350, x.digest(-1));
        due("digest(0)", RevisionTree.GONE, x.digest(0));
        due("digest(1)", 31 + 112, x.digest(1));
        due("digest(2)", 31 + 114, x.digest(2));
        due("digest(3)", 31 + 116, x.digest(3));
    }

    private static void digestRefused() {
        CHECKS.sentence("P12: REFUSED as for get");
        RevisionTree x = oneGone();
        for (int r : NO_READERS) {
            due("digest(" + r + ")", RevisionTree.REFUSED, x.digest(r));
            due("on a new object", RevisionTree.REFUSED, new RevisionTree().digest(r));
        }
        RevisionTree y = new RevisionTree();
        due("digest(-1)", 0, y.digest(-1));
        due("digest(3)", 0, y.digest(3));
    }

    private static void digestGone() {
        CHECKS.sentence("P12: GONE as for get");
        for (int r = 0; r <= 3; r++) {
            RevisionTree x = new RevisionTree();
            x.put(1, 10, 100);
            x.commit(-1);
            x.open(r);
            x.commit(-1);
            x.commit(-1);
            due("the third latest", 31 + 110, x.digest(r));
            x.commit(-1);
            due("the fourth latest", RevisionTree.GONE, x.digest(r));
            due("-1 goes on", 31 + 110, x.digest(-1));
            x.open(r);
            due("opened again", 31 + 110, x.digest(r));
        }
    }

    private static void digestWithoutKeys() {
        CHECKS.sentence("P12: from h = 0");
        RevisionTree x = new RevisionTree();
        for (int r = -1; r <= 3; r++) {
            due("digest(" + r + ")", 0, x.digest(r));
        }
        x.put(0, 0, 0);
        due("KEY, VALUE and SIZE 0", 0, x.digest(-1));
        x.put(0, 0, 1);
        due("SIZE 1", 1, x.digest(-1));
        x.put(0, -1, 0);
        due("VALUE -1, not REFUSED", -1, x.digest(-1));
        x.remove(0);
        due("without KEYS again", 0, x.digest(-1));
    }

    private static void digestByRisingKeys() {
        CHECKS.sentence("P12: for each KEY by rising KEYS");
        RevisionTree x = new RevisionTree();
        x.put(2, 30, 4);
        x.put(-1, 50, 6);
        x.put(0, 7, 0);
        int h = -1;
        h = h * 31 + 56;
        h = h * 31;
        h = h * 31 + 7;
        h = h * 31 + 2;
        h = h * 31 + 34;
        due("-1, 0, 2", h, x.digest(-1));
        RevisionTree y = new RevisionTree();
        y.put(GREATEST, 1, 0);
        y.put(LEAST, 2, 0);
        int g = LEAST;
        g = g * 31 + 2;
        g = g * 31 + GREATEST;
        g = g * 31 + 1;
        due("the least before the greatest", g, y.digest(-1));
    }

    private static void digestWraps() {
        CHECKS.sentence("P12: h = h * 31 + VALUE + SIZE (wrapping)");
        RevisionTree x = new RevisionTree();
        x.put(0, GREATEST, 0);
        due("up to the greatest", GREATEST, x.digest(-1));
        x.put(0, GREATEST, 1);
        due("one over it", LEAST, x.digest(-1));
        x.put(0, GREATEST, 300);
        due("300 over it", LEAST + 299, x.digest(-1));
        x.put(0, LEAST, 0);
        due("down to the least", LEAST, x.digest(-1));
        RevisionTree y = new RevisionTree();
        y.put(GREATEST, 0, 0);
        due("the greatest KEY", GREATEST - 30, y.digest(-1));
        RevisionTree z = new RevisionTree();
        z.put(LEAST, 0, 0);
        due("the least KEY", LEAST, z.digest(-1));
        z.put(LEAST, -1, 0);
        due("one below it", GREATEST, z.digest(-1));
    }

    private static void digestOf400Keys() {
        CHECKS.sentence("P12: for each KEY by rising KEYS");
        RevisionTree x = Checks.full();
        int h = 0;
        for (int i = 0; i < 400; i++) {
            int first = i / 60 * 60;
            int size = i % 2 == 0 ? 0 : (first + 7 * (i - first)) % 128;
            h = h * 31 + 2 * i;
            h = h * 31 + i + size;
        }
        due("worked on", h, x.digest(-1));
        x.commit(-1);
        x.open(1);
        x.put(798, 0, 0);
        due("committed", h, x.digest(1));
        x.put(798, 399, (360 + 7 * 39) % 128);
        due("put back", h, x.digest(-1));
    }

    private static void readsChangeNothing() {
        CHECKS.sentence("P8 to P12: reads, refused ones too");
        RevisionTree x = oneGone();
        String before = Checks.shown(x, 1, 4);
        int[] readers = {-2, -1, 0, 1, 2, 3, 4, LEAST, GREATEST};
        for (int r : readers) {
            x.get(r, 9);
            x.next(r, 9);
            x.size(r, 9);
            x.count(r);
            x.digest(r);
        }
        CHECKS.same("all reads", before, Checks.shown(x, 1, 4));
        due("no number is used up", 5, x.commit(-1));
    }
}
