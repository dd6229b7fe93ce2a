import java.util.TreeSet;

/** What the section 'What it is' says of the class as a whole, and what 'Not promised' shuts out. */
public final class WholeTest {
    private static final Checks CHECKS = new Checks();
    private static final int LEAST = Integer.MIN_VALUE;
    private static final int GREATEST = Integer.MAX_VALUE;

    /** Odd and great, so that the KEYS of one row wrap and come in no order. */
    private static final int SCATTER = 1540483477;

    public static void main(String[] args) {
        orderedAsItIsWorkedOn();
        orderedForAReader();
        committedAsAWhole();
        committedNotAtAll();
        readersGoOn();
        nothingBeyondTheObject();
        nothingBeyondTheCalls();
        CHECKS.close();
    }

    private static void due(String call, long want, long got) {
        CHECKS.due(call, want, got);
    }

    private static TreeSet<Integer> scatter(RevisionTree x) {
        TreeSet<Integer> keys = new TreeSet<>();
        for (int first = 0; first < 400; first += 60) {
            int many = Math.min(60, 400 - first);
            due("some from " + first, many, x.some(first * SCATTER, SCATTER, many, first));
            for (int i = first; i < first + many; i++) {
                keys.add(i * SCATTER);
            }
        }
        return keys;
    }

    private static void walk(RevisionTree x, int r, TreeSet<Integer> keys) {
        int k = LEAST;
        due("has the least int", 0, keys.contains(k) ? 1 : 0);
        for (int next : keys) {
            due("next(" + r + ", " + k + ")", next, x.next(r, k));
            k = next;
        }
        due("next(" + r + ", " + k + ")", Checks.NONE, x.next(r, k));
    }

    private static void orderedAsItIsWorkedOn() {
        CHECKS.sentence("An ordered table");
        RevisionTree x = new RevisionTree();
        TreeSet<Integer> keys = scatter(x);
        for (int i = 0; i < 400; i += 9) {
            x.remove(i * SCATTER);
            keys.remove(i * SCATTER);
        }
        walk(x, -1, keys);
    }

    private static void orderedForAReader() {
        CHECKS.sentence("An ordered table");
        RevisionTree x = new RevisionTree();
        TreeSet<Integer> keys = scatter(x);
        x.commit(-1);
        x.open(2);
        for (int i = 0; i < 400; i += 9) {
            x.remove(i * SCATTER);
        }
        x.some(0, 1, 40, 0);
        walk(x, 2, keys);
    }

    /** The KEYS 0 to 59 in revision 1, and changes of every kind behind it. */
    private static RevisionTree changed() {
        RevisionTree x = new RevisionTree();
        x.some(0, 1, 60, 1000);
        x.commit(-1);
        x.open(1);
        x.some(30, 1, 60, 2000);
        x.put(0, -1, 300);
        x.put(-1, -2, 299);
        x.put(GREATEST, -3, 298);
        x.remove(1);
        x.remove(59);
        return x;
    }

    /** What one reader can learn, in the form of one text. */
    private static String seen(RevisionTree x, int r) {
        StringBuilder text = new StringBuilder();
        text.append(' ').append(x.count(r)).append(" keys, digest ").append(x.digest(r));
        int[] keys = {LEAST, -1, 0, 1, 2, 3, 4, 29, 30, 58, 59, 60, 89, GREATEST};
        for (int k : keys) {
            text.append(", ").append(k).append(" has ").append(x.get(r, k));
            text.append('/').append(x.size(r, k)).append('/').append(x.next(r, k));
        }
        return text.toString();
    }

    private static void committedAsAWhole() {
        CHECKS.sentence("changes are committed as a whole");
        RevisionTree x = changed();
        String worked = seen(x, -1);
        String old = seen(x, 1);
        due("commit(-1)", 2, x.commit(-1));
        due("open(0)", 2, x.open(0));
        CHECKS.same("the reader of it", worked, seen(x, 0));
        CHECKS.same("what is worked on", worked, seen(x, -1));
        CHECKS.same("the reader of the one before", old, seen(x, 1));
        due("put again", 2000, x.get(0, 30));
        due("not touched", 1029, x.get(0, 29));
        due("put again with SIZE", 300, x.size(0, 0));
        due("put below all", -2, x.get(0, -1));
        due("put above all", -3, x.get(0, GREATEST));
        due("removed", Checks.NONE, x.get(0, 1));
        due("put again and removed", Checks.NONE, x.get(0, 59));
        due("60 and 32 less 2", 90, x.count(0));
    }

    private static void committedNotAtAll() {
        CHECKS.sentence("or not at all");
        int[] cuts = {0, 1, 2, 3, 10, 59, 60, 90, 91, 400, GREATEST};
        for (int cut : cuts) {
            RevisionTree x = changed();
            String old = seen(x, 1);
            due("commit(" + cut + ")", RevisionTree.CUT, x.commit(cut));
            due("open(0)", 1, x.open(0));
            CHECKS.same("a reader behind commit(" + cut + ")", old, seen(x, 0));
            CHECKS.same("what is worked on behind commit(" + cut + ")", old, seen(x, -1));
            CHECKS.same("the reader before commit(" + cut + ")", old, seen(x, 1));
        }
    }

    private static void readersGoOn() {
        CHECKS.sentence("readers go on with the revision that they opened");
        for (int r = 0; r <= 3; r++) {
            RevisionTree x = Checks.busy();
            x.open(r);
            String opened = seen(x, r);
            due("put of a new KEY", 1, x.put(0, 1, 1));
            due("put of an old KEY", 0, x.put(2, 1, 1));
            due("some", 26, x.some(1, 1, 30, 7));
            due("remove", 30, x.remove(3));
            CHECKS.same("changes", opened, seen(x, r));
            x.commit(4);
            CHECKS.same("a cut commit", opened, seen(x, r));
            x.put(2, 1, 1);
            x.forget();
            CHECKS.same("forget", opened, seen(x, r));
            x.remove(2);
            x.commit(-1);
            x.open((r + 1) % 4);
            CHECKS.same("a commit that another reader opens", opened, seen(x, r));
            x.remove(3);
            x.commit(-1);
            CHECKS.same("a second commit", opened, seen(x, r));
            x.put(2, 1, 1);
            x.commit(9);
            x.forget();
            CHECKS.same("a cut commit on the third latest", opened, seen(x, r));
            x.commit(-1);
            due("a third commit", RevisionTree.GONE, x.count(r));
        }
    }

    private static void nothingBeyondTheObject() {
        CHECKS.sentence("Nothing is promised beyond the answers and state changes described above");
        RevisionTree x = Checks.busy();
        RevisionTree other = Checks.busy();
        String before = Checks.shown(x, 1, 2, 4);
        other.put(2, 5, 6);
        other.some(0, 1, 60, 7);
        other.remove(1);
        CHECKS.same("changes of another object", before, Checks.shown(x, 1, 2, 4));
        other.commit(-1);
        other.commit(-1);
        other.open(2);
        CHECKS.same("commits of another object", before, Checks.shown(x, 1, 2, 4));
        other.commit(0);
        other.forget();
        CHECKS.same("a cut and forget of another object", before, Checks.shown(x, 1, 2, 4));
        due("the next number", 4, x.commit(-1));
        due("the other's next number", 6, other.commit(-1));
    }

    private static void nothingBeyondTheCalls() {
        CHECKS.sentence("Nothing is promised beyond the answers and state changes described above");
        RevisionTree alone = new RevisionTree();
        StringBuilder want = new StringBuilder();
        for (int step = 0; step < 50; step++) {
            want.append(' ').append(answers(alone, step));
        }
        RevisionTree[] both = {new RevisionTree(), new RevisionTree()};
        StringBuilder[] got = {new StringBuilder(), new StringBuilder()};
        for (int step = 0; step < 50; step++) {
            for (int i = 0; i < 2; i++) {
                got[i].append(' ').append(answers(both[i], step));
            }
        }
        CHECKS.same("the same calls on the first of two", want.toString(), got[0].toString());
        CHECKS.same("the same calls on the second of two", want.toString(), got[1].toString());
    }

    /** Ten calls that differ from step to step. */
    private static String answers(RevisionTree x, int step) {
        int r = step % 5 - 1;
        return x.put(step * 37 % 50, step, step * 11 % 310)
                + "/" + x.some(step * 13 % 90, step % 7 - 3, step * 5 % 64, step)
                + "/" + x.remove(step * 29 % 50)
                + "/" + x.commit(step % 3 - 2)
                + "/" + x.open(r)
                + "/" + x.get(r, step)
                + "/" + x.next(-r, step)
                + "/" + x.size(-1, step)
                + "/" + x.count(step % 4)
                + "/" + x.digest(3 - r);
    }
}
