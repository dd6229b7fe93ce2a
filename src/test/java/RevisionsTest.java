/** Promises 5 to 7: commit, forget, open. */
public final class RevisionsTest {
    private static final Checks CHECKS = new Checks();

    public static void main(String[] args) {
        commitNumbers();
        commitKeepsThree();
        commitThenGoOn();
        cutLosesWhatIsWorkedOn();
        cutBeforeAnyCommit();
        forgetTakesTheLatest();
        openReaders();
        openAgainAfterGone();
        openRefused();
        CHECKS.close();
    }

    private static void due(String call, long want, long got) {
        CHECKS.due(call, want, got);
    }

    private static void commitNumbers() {
        RevisionTree x = new RevisionTree();
        for (int i = 1; i <= 511; i++) {
            due("P5 commit " + i, i, x.commit(i % 2 == 0 ? -1 : Integer.MIN_VALUE));
        }
        due("P7 open the 511th", 511, x.open(3));
    }

    /** Reader i opens revision i; each is readable while it is one of the latest three. */
    private static void commitKeepsThree() {
        RevisionTree x = new RevisionTree();
        for (int i = 0; i <= 3; i++) {
            due("P7 open " + i, i, x.open(i));
            x.put(i, 10 + i, 20 + i);
            due("P5 commit " + (i + 1), i + 1, x.commit(-1));
        }
        due("P5 revision 0 is gone", RevisionTree.GONE, x.count(0));
        due("P5 revision 1 is gone", RevisionTree.GONE, x.count(1));
        due("P5 revision 2 is kept", 2, x.count(2));
        due("P5 revision 3 is kept", 3, x.count(3));
        due("P5 revision 2's value", 11, x.get(2, 1));
        due("P5 revision 2 lacks what came later", Checks.NONE, x.get(2, 2));
        due("P5 revision 3's size", 22, x.size(3, 2));
        x.commit(-1);
        due("P5 revision 2 is gone", RevisionTree.GONE, x.count(2));
        due("P5 revision 3 is kept", 3, x.count(3));
        x.commit(-1);
        due("P5 revision 3 is gone", RevisionTree.GONE, x.count(3));
        due("P5 what is worked on stays", 4, x.count(-1));
    }

    private static void commitThenGoOn() {
        RevisionTree x = new RevisionTree();
        x.some(0, 1, 10, 0);
        x.commit(-1);
        due("P5 what is worked on goes on", 10, x.count(-1));
        x.open(0);
        x.remove(0);
        x.put(1, 99, 9);
        x.put(50, 5, 5);
        due("P5 not removed for the reader", 0, x.get(0, 0));
        due("P5 not put for the reader", 1, x.get(0, 1));
        due("P5 not put for the reader", 7, x.size(0, 1));
        due("P5 not put for the reader", Checks.NONE, x.get(0, 50));
        due("P5 commit", 2, x.commit(-1));
        due("P5 the reader stays", 0, x.get(0, 0));
        x.open(1);
        due("P5 the new reader", Checks.NONE, x.get(1, 0));
        due("P5 the new reader", 99, x.get(1, 1));
        due("P5 the new reader", 5, x.get(1, 50));
    }

    private static void cutLosesWhatIsWorkedOn() {
        int[] cuts = {0, 1, 2, 9, 1000, Integer.MAX_VALUE};
        for (int cut : cuts) {
            RevisionTree x = new RevisionTree();
            x.some(0, 3, 40, 8);
            x.commit(-1);
            x.open(0);
            int before = x.digest(0);
            x.put(0, 77, 77);
            x.put(1, 77, 77);
            x.remove(3);
            due("P5 cut " + cut, RevisionTree.CUT, x.commit(cut));
            due("P5 lost", before, x.digest(-1));
            due("P5 lost", 40, x.count(-1));
            due("P5 the reader stays", before, x.digest(0));
            due("P5 no revision was made", 1, x.open(1));
            due("P5 the latest stays", before, x.digest(1));
            due("P5 nothing changed", RevisionTree.CUT, x.commit(cut));
            for (int i = 0; i < 4; i++) {
                x.commit(cut);
            }
            due("P5 cut off ones push nothing out", 40, x.count(0));
            due("P5 the next number", 2, x.commit(-1));
        }
    }

    private static void cutBeforeAnyCommit() {
        RevisionTree x = new RevisionTree();
        x.put(1, 1, 1);
        due("P5 cut at first", RevisionTree.CUT, x.commit(0));
        due("P5 revision 0 has no keys", 0, x.count(-1));
        due("P5 commit", 1, x.commit(-1));
    }

    private static void forgetTakesTheLatest() {
        RevisionTree x = new RevisionTree();
        x.put(1, 1, 1);
        due("P6 revision 0", 0, x.forget());
        due("P6 none", Checks.NONE, x.get(-1, 1));
        x.some(0, 1, 20, 0);
        x.commit(-1);
        x.open(2);
        int first = x.digest(-1);
        x.remove(5);
        x.put(100, 1, 1);
        x.commit(-1);
        int second = x.digest(-1);
        x.some(200, 1, 60, 0);
        x.put(0, -1, 300);
        x.remove(19);
        due("P6 the latest, not the reader's", 20, x.forget());
        due("P6 digest", second, x.digest(-1));
        due("P6 the reader stays", first, x.digest(2));
        due("P6 again", 20, x.forget());
        due("P6 no revision was made", 2, x.open(3));
        x.some(200, 1, 60, 0);
        due("P6 the revision is apart", second, x.digest(3));
    }

    private static void openReaders() {
        RevisionTree x = new RevisionTree();
        x.put(1, 1, 1);
        due("P7 what is worked on is not opened", 0, x.open(0));
        due("P7 not committed", 0, x.count(0));
        x.commit(-1);
        for (int r = 0; r <= 3; r++) {
            due("P7 not opened yet " + r, 0, x.count(r));
            due("P7 open " + r, 1, x.open(r));
            due("P7 opened " + r, 1, x.count(r));
        }
        x.remove(1);
        x.commit(-1);
        due("P7 opens the latest", 2, x.open(2));
        due("P7 opened", 0, x.count(2));
        due("P7 the others stay", 1, x.count(1));
        due("P7 the others stay", 1, x.count(3));
        due("P7 open again", 2, x.open(2));
    }

    private static void openAgainAfterGone() {
        RevisionTree x = new RevisionTree();
        x.put(1, 1, 1);
        x.commit(-1);
        x.commit(-1);
        due("P7 revision 0 is the third", 0, x.count(0));
        x.commit(-1);
        due("P7 gone", RevisionTree.GONE, x.count(0));
        due("P7 open", 3, x.open(0));
        due("P7 readable", 1, x.count(0));
    }

    private static void openRefused() {
        RevisionTree x = new RevisionTree();
        x.commit(-1);
        int[] wrong = {-1, -2, 4, Integer.MIN_VALUE, Integer.MAX_VALUE};
        for (int r : wrong) {
            due("P7 refused " + r, RevisionTree.REFUSED, x.open(r));
        }
        due("P7 open", 1, x.open(0));
    }
}
