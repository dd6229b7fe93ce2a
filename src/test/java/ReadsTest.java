/** Promises 8 to 12: get, next, size, count, digest. */
public final class ReadsTest {
    private static final Checks CHECKS = new Checks();
    private static final int LEAST = Integer.MIN_VALUE;
    private static final int GREATEST = Integer.MAX_VALUE;

    public static void main(String[] args) {
        getValues();
        nextKeys();
        nextOverAll();
        sizes();
        counts();
        digests();
        refusedReaders();
        goneReaders();
        CHECKS.close();
    }

    private static void due(String call, long want, long got) {
        CHECKS.due(call, want, got);
    }

    private static void getValues() {
        RevisionTree x = new RevisionTree();
        x.put(LEAST, GREATEST, 0);
        x.put(GREATEST, LEAST, 0);
        x.put(0, -1, 0);
        x.put(1, -2, 0);
        x.commit(-1);
        x.open(3);
        x.put(0, 5, 0);
        due("P8 the greatest value", GREATEST, x.get(3, LEAST));
        due("P8 the least value", LEAST, x.get(3, GREATEST));
        due("P8 a value like REFUSED", -1, x.get(3, 0));
        due("P8 a value like NONE", -2, x.get(3, 1));
        due("P8 what is worked on", 5, x.get(-1, 0));
        due("P8 none", Checks.NONE, x.get(3, 2));
        due("P8 none for reader 0", Checks.NONE, x.get(0, 0));
    }

    private static void nextKeys() {
        RevisionTree x = new RevisionTree();
        due("P9 none at all", Checks.NONE, x.next(-1, LEAST));
        x.put(5, 0, 0);
        x.put(-5, 0, 0);
        x.commit(-1);
        x.open(0);
        x.put(0, 0, 0);
        x.remove(5);
        due("P9 below all", -5, x.next(0, LEAST));
        due("P9 just below", -5, x.next(0, -6));
        due("P9 not the key itself", 5, x.next(0, -5));
        due("P9 between", 5, x.next(0, 4));
        due("P9 the last", Checks.NONE, x.next(0, 5));
        due("P9 above all", Checks.NONE, x.next(0, GREATEST));
        due("P9 what is worked on", 0, x.next(-1, -5));
        due("P9 what is worked on", Checks.NONE, x.next(-1, 0));
        x.put(LEAST, 0, 0);
        x.put(GREATEST, 0, 0);
        due("P9 from the least", -5, x.next(-1, LEAST));
        due("P9 the greatest", GREATEST, x.next(-1, GREATEST - 1));
        due("P9 above the greatest", Checks.NONE, x.next(-1, GREATEST));
    }

    private static void nextOverAll() {
        RevisionTree x = Checks.full();
        for (int k = 0; k <= 798; k += 2) {
            due("P9 up to " + k, k, x.next(-1, k % 4 == 0 ? k - 1 : k - 2));
        }
        due("P9 above all 400", Checks.NONE, x.next(-1, 798));
    }

    private static void sizes() {
        RevisionTree x = new RevisionTree();
        x.put(1, 9, 0);
        x.put(2, 9, 300);
        x.commit(-1);
        x.open(1);
        x.put(1, 9, 8);
        due("P10 0", 0, x.size(1, 1));
        due("P10 300", 300, x.size(1, 2));
        due("P10 what is worked on", 8, x.size(-1, 1));
        due("P10 none", RevisionTree.NONE, x.size(1, 3));
        due("P10 none", RevisionTree.NONE, x.size(0, 1));
        due("P10 none", RevisionTree.NONE, x.size(-1, LEAST));
    }

    private static void counts() {
        RevisionTree x = Checks.full();
        due("P11 all", 400, x.count(-1));
        due("P11 reader 2", 0, x.count(2));
        x.commit(-1);
        x.open(2);
        x.remove(0);
        due("P11 all", 400, x.count(2));
        due("P11 one less", 399, x.count(-1));
    }

    private static void digests() {
        RevisionTree x = new RevisionTree();
        due("P12 no keys", 0, x.digest(-1));
        x.put(3, 40, 5);
        due("P12 one key", 3 * 31 + 45, x.digest(-1));
        x.commit(-1);
        x.open(0);
        x.put(2, 0, 0);
        due("P12 by rising keys", (2 * 31 * 31 + 3) * 31 + 45, x.digest(-1));
        due("P12 the reader's", 3 * 31 + 45, x.digest(0));
        RevisionTree y = new RevisionTree();
        y.put(LEAST, GREATEST, 300);
        y.put(GREATEST, GREATEST, 1);
        int h = LEAST;
        h = h * 31 + GREATEST + 300;
        h = h * 31 + GREATEST;
        h = h * 31 + GREATEST + 1;
        due("P12 wrapping", h, y.digest(-1));
    }

    /** Refused also where the other readers are gone. */
    private static void refusedReaders() {
        RevisionTree x = new RevisionTree();
        int[] wrong = {-2, 4, 5, LEAST, GREATEST};
        for (int commits = 0; commits <= 4; commits++) {
            for (int r : wrong) {
                due("P8 refused " + r, Checks.REFUSED, x.get(r, 1));
                due("P9 refused " + r, Checks.REFUSED, x.next(r, 0));
                due("P10 refused " + r, RevisionTree.REFUSED, x.size(r, 1));
                due("P11 refused " + r, RevisionTree.REFUSED, x.count(r));
                due("P12 refused " + r, RevisionTree.REFUSED, x.digest(r));
            }
            x.put(1, 1, 1);
            x.commit(-1);
        }
    }

    /** Gone for each reader alone, for keys that are there and for others; -1 is never gone. */
    private static void goneReaders() {
        for (int r = 0; r <= 3; r++) {
            RevisionTree x = new RevisionTree();
            x.put(1, 1, 1);
            x.commit(-1);
            x.open(r);
            x.commit(-1);
            x.commit(-1);
            due("P8 not gone yet", 1, x.get(r, 1));
            due("P9 not gone yet", 1, x.next(r, 0));
            due("P10 not gone yet", 1, x.size(r, 1));
            due("P11 not gone yet", 1, x.count(r));
            due("P12 not gone yet", 33, x.digest(r));
            x.commit(-1);
            for (int k = 0; k <= 1; k++) {
                due("P8 gone", Checks.GONE, x.get(r, k));
                due("P9 gone", Checks.GONE, x.next(r, k));
                due("P10 gone", RevisionTree.GONE, x.size(r, k));
            }
            due("P11 gone", RevisionTree.GONE, x.count(r));
            due("P12 gone", RevisionTree.GONE, x.digest(r));
            due("P8 -1 is never gone", 1, x.get(-1, 1));
            due("P9 -1 is never gone", 1, x.next(-1, 0));
            due("P10 -1 is never gone", 1, x.size(-1, 1));
            due("P11 -1 is never gone", 1, x.count(-1));
            due("P12 -1 is never gone", 33, x.digest(-1));
        }
    }
}
