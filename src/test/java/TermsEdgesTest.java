/** The boundary cases that the sections 'What it is' and 'Terms' name, a test for each. */
public final class TermsEdgesTest {
    private static final Checks CHECKS = new Checks();
    private static final int LEAST = Integer.MIN_VALUE;
    private static final int GREATEST = Integer.MAX_VALUE;

    public static void main(String[] args) {
        theLastCallIsAsDue();
        upTo400Keys();
        keysAreInts();
        valuesAreInts();
        sizes0To300();
        noKeysAtFirst();
        revision0IsThereAtFirst();
        commitMakesTheNextRevision();
        whatIsCutOffIsLost();
        readers0To3();
        readersAreOnRevision0AtFirst();
        readableWhileOneOfTheLatestThree();
        theLatestThreeOverManyRevisions();
        readerMinus1ReadsWhatIsWorkedOn();
        CHECKS.close();
    }

    private static void due(String call, long want, long got) {
        CHECKS.due(call, want, got);
    }

    /** 511 calls: KEYS 1 and 2 stand in revision 508, KEY 2 is changed behind it. */
    private static RevisionTree beforeTheLastCall() {
        RevisionTree x = new RevisionTree();
        x.some(1, 1, 2, 10);
        for (int i = 0; i < 508; i++) {
            x.commit(-1);
        }
        x.open(3);
        x.put(2, 20, 300);
        return x;
    }

    private static void theLastCallIsAsDue() {
        CHECKS.sentence("An object is used for at most 512 calls after it has been made");
        due("put as the 512th", 1, beforeTheLastCall().put(3, 0, 0));
        due("some as the 512th", 58, beforeTheLastCall().some(1, 1, 60, 0));
        due("remove as the 512th", 1, beforeTheLastCall().remove(2));
        due("commit as the 512th", 509, beforeTheLastCall().commit(-1));
        due("cut as the 512th", RevisionTree.CUT, beforeTheLastCall().commit(0));
        due("forget as the 512th", 2, beforeTheLastCall().forget());
        due("open as the 512th", 508, beforeTheLastCall().open(0));
        due("get as the 512th", 11, beforeTheLastCall().get(3, 2));
        due("next as the 512th", 2, beforeTheLastCall().next(3, 1));
        due("size as the 512th", 17, beforeTheLastCall().size(3, 2));
        due("count as the 512th", RevisionTree.GONE, beforeTheLastCall().count(0));
        due("digest as the 512th", ((31 + 10) * 31 + 2) * 31 + 320, beforeTheLastCall().digest(-1));
        RevisionTree x = new RevisionTree();
        for (int i = 1; i <= 512; i++) {
            due("commit(-1) as call " + i, i, x.commit(-1));
        }
    }

    private static void upTo400Keys() {
        CHECKS.sentence("THE TABLE that is worked on has up to 400 KEYS");
        RevisionTree x = Checks.full();
        x.remove(400);
        due("count of 399", 399, x.count(-1));
        due("the 400th", 1, x.put(401, 7, 8));
        due("count of 400", 400, x.count(-1));
        due("the 401st", RevisionTree.FULL, x.put(400, 7, 8));
        due("count behind the 401st", 400, x.count(-1));
        due("the 401st is not there", Checks.NONE, x.get(-1, 400));
        due("the 400th is there", 7, x.get(-1, 401));
        due("the least is there", 0, x.get(-1, 0));
        due("the greatest is there", 399, x.get(-1, 798));
    }

    private static void keysAreInts() {
        CHECKS.sentence("KEYS, ints");
        RevisionTree x = new RevisionTree();
        int[] rising = {LEAST, LEAST + 1, -1, 0, 1, GREATEST - 1, GREATEST};
        int[] order = {3, 6, 0, 2, 5, 1, 4};
        for (int i : order) {
            due("put " + rising[i], 1, x.put(rising[i], i, i));
        }
        for (int i = 0; i < rising.length; i++) {
            due("value of " + rising[i], i, x.get(-1, rising[i]));
            due("size of " + rising[i], i, x.size(-1, rising[i]));
            long above = i + 1 < rising.length ? rising[i + 1] : Checks.NONE;
            due("next above " + rising[i], above, x.next(-1, rising[i]));
        }
        due("the one above the least is not the least", Checks.NONE, x.get(-1, LEAST + 2));
        due("the one below the greatest is not the greatest", Checks.NONE, x.get(-1, GREATEST - 2));
    }

    private static void valuesAreInts() {
        CHECKS.sentence("each with a VALUE, an int");
        RevisionTree x = new RevisionTree();
        int[] values = {LEAST, LEAST + 1, -5, -4, -3, -2, -1, 0, 1, GREATEST - 1, GREATEST};
        for (int i = 0; i < values.length; i++) {
            due("put with " + values[i], 1, x.put(i, values[i], 0));
        }
        x.commit(-1);
        x.open(0);
        for (int i = 0; i < values.length; i++) {
            due("worked on " + values[i], values[i], x.get(-1, i));
            due("committed " + values[i], values[i], x.get(0, i));
        }
    }

    private static void sizes0To300() {
        CHECKS.sentence("and a SIZE, 0 to 300");
        RevisionTree x = new RevisionTree();
        for (int n = 0; n <= 300; n += 100) {
            due("put with size " + n, 1, x.put(n, 0, n));
        }
        due("put with size -1", RevisionTree.REFUSED, x.put(-1, 0, -1));
        due("put with size 301", RevisionTree.REFUSED, x.put(301, 0, 301));
        x.commit(-1);
        x.open(0);
        for (int n = 0; n <= 300; n += 100) {
            due("worked on " + n, n, x.size(-1, n));
            due("committed " + n, n, x.size(0, n));
        }
        due("none with size -1", RevisionTree.NONE, x.size(-1, -1));
        due("none with size 301", RevisionTree.NONE, x.size(-1, 301));
        due("count", 4, x.count(-1));
    }

    private static void noKeysAtFirst() {
        CHECKS.sentence("none at first");
        RevisionTree x = new RevisionTree();
        due("count", 0, x.count(-1));
        due("none from the least on", Checks.NONE, x.next(-1, LEAST));
        due("not the least", Checks.NONE, x.get(-1, LEAST));
        due("not 0, as a row of zeros would have", Checks.NONE, x.get(-1, 0));
        due("no size of 0", RevisionTree.NONE, x.size(-1, 0));
        due("the first is new", 1, x.put(0, 0, 0));
        due("and is the only one", 1, x.count(-1));
    }

    private static void revision0IsThereAtFirst() {
        CHECKS.sentence("0, without KEYS, is there at first");
        RevisionTree x = new RevisionTree();
        x.put(1, 2, 3);
        due("open", 0, x.open(0));
        due("count", 0, x.count(0));
        due("next", Checks.NONE, x.next(0, LEAST));
        due("digest", 0, x.digest(0));
        due("forget takes it", 0, x.forget());
        due("what is worked on", 0, x.count(-1));
    }

    private static void commitMakesTheNextRevision() {
        CHECKS.sentence("A COMMIT makes it the next REVISION");
        RevisionTree x = new RevisionTree();
        for (int i = 1; i <= 100; i++) {
            x.put(i, -i, i);
            due("commit " + i, i, x.commit(-1));
            due("open " + i, i, x.open(i % 4));
            due("count in " + i, i, x.count(i % 4));
            due("the newest key in " + i, -i, x.get(i % 4, i));
        }
    }

    private static void whatIsCutOffIsLost() {
        CHECKS.sentence("What is cut off in a COMMIT is lost: the table that is worked on is that"
                + " of the latest REVISION then");
        RevisionTree x = new RevisionTree();
        x.put(1, 10, 100);
        due("cut before any commit", RevisionTree.CUT, x.commit(0));
        due("it is revision 0's", 0, x.count(-1));
        x.put(1, 11, 101);
        x.put(2, 12, 102);
        x.commit(-1);
        x.open(0);
        x.put(2, 99, 99);
        x.put(3, 99, 99);
        x.remove(1);
        due("cut behind a commit", RevisionTree.CUT, x.commit(5));
        due("put anew is lost", Checks.NONE, x.get(-1, 3));
        due("put again is lost, value", 12, x.get(-1, 2));
        due("put again is lost, size", 102, x.size(-1, 2));
        due("removed is lost", 11, x.get(-1, 1));
        due("as the latest", x.digest(0), x.digest(-1));
        due("put goes on from there", 1, x.put(3, 13, 103));
        due("the latest is apart", 2, x.count(0));
        due("commit", 2, x.commit(-1));
        due("open", 2, x.open(1));
        due("what came behind the cut is in", 13, x.get(1, 3));
    }

    private static void readers0To3() {
        CHECKS.sentence("READERS 0 to 3 are on a REVISION each");
        RevisionTree x = new RevisionTree();
        x.put(1, 1, 1);
        x.commit(-1);
        x.open(0);
        x.put(2, 2, 2);
        x.commit(-1);
        x.open(3);
        due("reader 0", 1, x.count(0));
        due("reader 1", 0, x.count(1));
        due("reader 2", 0, x.count(2));
        due("reader 3", 2, x.count(3));
        due("no reader 4", RevisionTree.REFUSED, x.count(4));
        due("no reader -2", RevisionTree.REFUSED, x.count(-2));
    }

    private static void readersAreOnRevision0AtFirst() {
        CHECKS.sentence("on a REVISION each (0 at first)");
        RevisionTree x = new RevisionTree();
        for (int commits = 0; commits <= 3; commits++) {
            for (int r = 0; r <= 3; r++) {
                due("reader " + r + " behind " + commits + " commits",
                        commits < 3 ? 0 : RevisionTree.GONE, x.count(r));
            }
            x.put(commits, 0, 0);
            x.commit(-1);
        }
    }

    private static void readableWhileOneOfTheLatestThree() {
        CHECKS.sentence("which can be read while it is one of the latest three");
        RevisionTree x = new RevisionTree();
        x.put(1, 10, 100);
        x.commit(-1);
        x.open(0);
        due("the latest", 10, x.get(0, 1));
        x.put(1, 20, 200);
        x.commit(-1);
        due("the second latest", 10, x.get(0, 1));
        x.put(1, 30, 300);
        x.commit(-1);
        due("the third latest", 10, x.get(0, 1));
        due("the third latest, size", 100, x.size(0, 1));
        x.put(1, 40, 0);
        x.commit(0);
        due("a cut off one is none of the three", 10, x.get(0, 1));
        x.forget();
        due("what is worked on is none of the three", 10, x.get(0, 1));
        x.commit(-1);
        due("the fourth latest", Checks.GONE, x.get(0, 1));
        x.forget();
        x.commit(0);
        due("gone for good", Checks.GONE, x.get(0, 1));
        x.open(1);
        due("gone whatever another opens", Checks.GONE, x.get(0, 1));
        x.open(0);
        due("opened anew", 30, x.get(0, 1));
    }

    private static void theLatestThreeOverManyRevisions() {
        CHECKS.sentence("one of the latest three");
        theLatestThree(1, 60);
        theLatestThree(250, 270);
        theLatestThree(470, 474);
    }

    /** Revision i has the one VALUE i; readers take turns, so that four revisions are open. */
    private static void theLatestThree(int first, int last) {
        RevisionTree x = new RevisionTree();
        for (int i = 1; i < first; i++) {
            x.commit(-1);
        }
        for (int i = first; i <= last; i++) {
            x.put(0, i, i % 301);
            x.commit(-1);
            x.open(i % 4);
            for (int back = 0; back <= 3 && back <= i - first; back++) {
                long want = back < 3 ? i - back : Checks.GONE;
                due(back + " behind revision " + i, want, x.get((i - back) % 4, 0));
            }
        }
    }

    private static void readerMinus1ReadsWhatIsWorkedOn() {
        CHECKS.sentence("READER -1 reads what is worked on");
        RevisionTree x = new RevisionTree();
        x.put(1, 10, 100);
        due("before a commit", 10, x.get(-1, 1));
        due("no other reader does", Checks.NONE, x.get(0, 1));
        for (int i = 1; i <= 4; i++) {
            x.commit(-1);
            due("behind commit " + i, 10, x.get(-1, 1));
            due("size behind commit " + i, 100, x.size(-1, 1));
            due("count behind commit " + i, 1, x.count(-1));
        }
        x.put(1, 11, 101);
        due("put again", 11, x.get(-1, 1));
        x.forget();
        due("behind forget", 10, x.get(-1, 1));
        x.remove(1);
        due("removed", Checks.NONE, x.get(-1, 1));
        x.commit(GREATEST);
        due("behind a cut", 10, x.get(-1, 1));
    }
}
