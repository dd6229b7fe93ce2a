/** The boundary cases that promises 5 to 7 name, a test for each. */
public final class RevisionsEdgesTest {
    private static final Checks CHECKS = new Checks();
    private static final int LEAST = Integer.MIN_VALUE;
    private static final int GREATEST = Integer.MAX_VALUE;

    public static void main(String[] args) {
        commitFromTheFirstNumberOn();
        commitOfAFullTable();
        commitOfATableWithoutKeys();
        commitOfNoKeysOverSome();
        cutIs0OrAbove();
        cutHoweverGreat();
        cutLeavesTheRevisions();
        cutOfAFullTable();
        cutOfATableWithoutKeys();
        cutWithNothingChanged();
        belowZeroItIsDone();
        commitWithNothingChanged();
        forgetAtFirst();
        forgetUpTo400Keys();
        forgetWithNothingChanged();
        forgetLeavesTheRevisions();
        openTakes0To3();
        openRefusesAnotherReader();
        openTakesTheLatestAlone();
        openBehindACut();
        openWhenGone();
        CHECKS.close();
    }

    private static void due(String call, long want, long got) {
        CHECKS.due(call, want, got);
    }

    private static void commitFromTheFirstNumberOn() {
        CHECKS.sentence("P5: A COMMIT: the number of the REVISION");
        RevisionTree x = new RevisionTree();
        due("before the first", 0, x.open(0));
        due("the first", 1, x.commit(-1));
        due("behind the first", 1, x.open(0));
        due("a cut one", RevisionTree.CUT, x.commit(0));
        due("the second", 2, x.commit(-1));
        due("forget", 0, x.forget());
        due("the third", 3, x.commit(-1));
        due("the fourth, where the first is kept no more", 4, x.commit(-1));
        due("behind the fourth", 4, x.open(0));
    }

    private static void commitOfAFullTable() {
        CHECKS.sentence("P5: A COMMIT: the number of the REVISION");
        RevisionTree x = Checks.full();
        int digest = x.digest(-1);
        for (int i = 1; i <= 4; i++) {
            due("of 400 KEYS", i, x.commit(-1));
            x.open(i - 1);
            due("worked on", digest, x.digest(-1));
            due("full", RevisionTree.FULL, x.put(1, 1, 1));
        }
        due("the fourth latest", RevisionTree.GONE, x.count(0));
        for (int r = 1; r <= 3; r++) {
            due("count(" + r + ")", 400, x.count(r));
            due("digest(" + r + ")", digest, x.digest(r));
            due("the least", 0, x.next(r, LEAST));
            due("the greatest", 798, x.next(r, 797));
        }
    }

    private static void commitOfATableWithoutKeys() {
        CHECKS.sentence("P5: A COMMIT: the number of the REVISION");
        RevisionTree x = new RevisionTree();
        due("of revision 0's table", 1, x.commit(-1));
        x.put(1, 10, 100);
        due("of one KEY", 2, x.commit(-1));
        x.open(0);
        x.remove(1);
        due("of none again", 3, x.commit(-1));
        x.open(1);
        due("the reader of one KEY", 10, x.get(0, 1));
        due("the reader of none", Checks.NONE, x.get(1, 1));
        due("its count", 0, x.count(1));
        due("its digest", 0, x.digest(1));
        due("forget takes none", 0, x.forget());
    }

    /** The rows of a revision that is let go may be used again: nothing of it may show. */
    private static void commitOfNoKeysOverSome() {
        CHECKS.sentence("P5: A COMMIT: the number of the REVISION");
        for (int full = 1; full <= 6; full++) {
            RevisionTree x = new RevisionTree();
            x.some(0, 1, 60, 5);
            for (int i = 1; i <= full; i++) {
                due("of 60 KEYS", i, x.commit(-1));
            }
            for (int i = 0; i < 60; i++) {
                x.remove(i);
            }
            due("of none", full + 1, x.commit(-1));
            due("open", full + 1, x.open(0));
            due("its count", 0, x.count(0));
            due("its KEYS", Checks.NONE, x.next(0, LEAST));
            due("its digest", 0, x.digest(0));
            x.put(1, 1, 1);
            due("forget takes none", 0, x.forget());
        }
    }

    private static void cutIs0OrAbove() {
        CHECKS.sentence("P5: If cut is 0 or above it is cut off");
        for (int cut = 0; cut <= 70; cut++) {
            RevisionTree x = Checks.busy();
            due("commit(" + cut + ")", RevisionTree.CUT, x.commit(cut));
            due("worked on as revision 3", x.digest(3), x.digest(-1));
            due("count", 3, x.count(-1));
            due("put again is lost", 20, x.get(-1, 2));
            due("no number is used up", 3, x.open(0));
            due("commit(-1)", 4, x.commit(-1));
            due("not cut", 3, x.count(-1));
        }
        RevisionTree done = Checks.busy();
        due("commit(-1)", 4, done.commit(-1));
        due("not lost", 21, done.get(-1, 2));
        due("count", 4, done.count(-1));
    }

    private static void cutHoweverGreat() {
        CHECKS.sentence("P5: however great cut is: CUT");
        int[] cuts = {399, 400, 401, 512, 1000, 65535, 65536, 1 << 30, GREATEST - 1, GREATEST};
        for (int cut : cuts) {
            RevisionTree x = Checks.busy();
            due("commit(" + cut + ")", RevisionTree.CUT, x.commit(cut));
            due("worked on as revision 3", x.digest(3), x.digest(-1));
            due("no number is used up", 4, x.commit(-1));
        }
        due("on a new object", RevisionTree.CUT, new RevisionTree().commit(GREATEST));
    }

    private static void cutLeavesTheRevisions() {
        CHECKS.sentence("P5: it is cut off after so many blocks, in some way, before it is done");
        RevisionTree x = Checks.busy();
        x.forget();
        String before = Checks.shown(x, 1, 2);
        int[] cuts = {0, 1, 2, 3, 4, GREATEST};
        for (int cut : cuts) {
            x.remove(1);
            x.put(2, -1, 0);
            x.put(9, 90, 9);
            due("commit(" + cut + ")", RevisionTree.CUT, x.commit(cut));
            CHECKS.same("commit(" + cut + ")", before, Checks.shown(x, 1, 2));
        }
        due("the next number", 4, x.commit(-1));
        due("it pushes revision 1 out", RevisionTree.GONE, x.count(1));
        due("but not revision 2", 2, x.count(2));
    }

    private static void cutOfAFullTable() {
        CHECKS.sentence("P5: If cut is 0 or above it is cut off");
        RevisionTree x = Checks.full();
        due("400 KEYS over none", RevisionTree.CUT, x.commit(0));
        due("none then", 0, x.count(-1));
        due("none from the least on", Checks.NONE, x.next(-1, LEAST));
        RevisionTree y = Checks.full();
        y.commit(-1);
        int digest = y.digest(-1);
        y.remove(0);
        y.remove(798);
        y.put(1, 1, 1);
        due("399 KEYS over 400", RevisionTree.CUT, y.commit(GREATEST));
        due("400 then", 400, y.count(-1));
        due("the same 400", digest, y.digest(-1));
        due("full then", RevisionTree.FULL, y.put(1, 1, 1));
    }

    private static void cutOfATableWithoutKeys() {
        CHECKS.sentence("P5: If cut is 0 or above it is cut off");
        RevisionTree x = new RevisionTree();
        x.put(1, 10, 100);
        x.commit(-1);
        x.remove(1);
        due("no KEYS over one", RevisionTree.CUT, x.commit(0));
        due("one then", 1, x.count(-1));
        due("its VALUE", 10, x.get(-1, 1));
        due("its SIZE", 100, x.size(-1, 1));
    }

    private static void cutWithNothingChanged() {
        CHECKS.sentence("P5: If cut is 0 or above it is cut off");
        RevisionTree x = new RevisionTree();
        due("at first", RevisionTree.CUT, x.commit(0));
        due("still revision 0", 0, x.open(0));
        x.put(1, 10, 100);
        x.commit(-1);
        due("right behind a commit", RevisionTree.CUT, x.commit(0));
        due("still revision 1", 1, x.open(0));
        due("worked on", 10, x.get(-1, 1));
        due("committed", 10, x.get(0, 1));
        due("the next number", 2, x.commit(-1));
    }

    private static void belowZeroItIsDone() {
        CHECKS.sentence("P5: Below 0 it is done");
        int[] below = {-1, -2, -5, -400, LEAST + 1, LEAST};
        for (int cut : below) {
            RevisionTree x = Checks.busy();
            due("commit(" + cut + ")", 4, x.commit(cut));
            due("worked on goes on", 4, x.count(-1));
            due("open", 4, x.open(0));
            due("put", 21, x.get(0, 2));
            due("put with SIZE", 201, x.size(0, 2));
            due("removed", Checks.NONE, x.get(0, 1));
            due("revision 1 is gone", RevisionTree.GONE, x.count(1));
            due("revision 2 is kept", 20, x.get(2, 2));
            due("revision 3 is kept", 10, x.get(3, 1));
        }
        RevisionTree x = Checks.busy();
        due("commit(0) is not done", RevisionTree.CUT, x.commit(0));
        due("revision 1 is kept", 1, x.count(1));
    }

    private static void commitWithNothingChanged() {
        CHECKS.sentence("P5: also if nothing was changed");
        RevisionTree x = new RevisionTree();
        x.put(1, 10, 100);
        x.commit(-1);
        x.open(0);
        due("a second time", 2, x.commit(-1));
        due("opened", 2, x.open(1));
        due("a third time", 3, x.commit(-1));
        due("revision 1 is the third latest", 10, x.get(0, 1));
        due("a fourth time", 4, x.commit(-1));
        due("revision 1 is gone", Checks.GONE, x.get(0, 1));
        due("revision 2 has the same", 10, x.get(1, 1));
        due("worked on is the same", 10, x.get(-1, 1));
        RevisionTree y = new RevisionTree();
        due("of no KEYS", 1, y.commit(-1));
        due("of no KEYS again", 2, y.commit(-1));
    }

    private static void forgetAtFirst() {
        CHECKS.sentence("P6: What is worked on is as the latest REVISION then: how many KEYS it has");
        RevisionTree x = new RevisionTree();
        due("a new object", 0, x.forget());
        x.put(1, 10, 100);
        due("one KEY over revision 0", 0, x.forget());
        due("it is gone", Checks.NONE, x.get(-1, 1));
        due("count", 0, x.count(-1));
        due("digest", 0, x.digest(-1));
        due("it is new again", 1, x.put(1, 10, 100));
    }

    private static void forgetUpTo400Keys() {
        CHECKS.sentence("P6: What is worked on is as the latest REVISION then: how many KEYS it has");
        RevisionTree x = Checks.full();
        due("400 over none", 0, x.forget());
        due("none then", Checks.NONE, x.next(-1, LEAST));
        RevisionTree y = Checks.full();
        int digest = y.digest(-1);
        y.commit(-1);
        for (int i = 0; i < 400; i++) {
            y.remove(2 * i);
        }
        due("none over 400", 400, y.forget());
        due("count", 400, y.count(-1));
        due("digest", digest, y.digest(-1));
        due("the greatest", 399, y.get(-1, 798));
        due("full", RevisionTree.FULL, y.put(799, 1, 1));
        y.remove(798);
        due("399 over 400", 400, y.forget());
    }

    private static void forgetWithNothingChanged() {
        CHECKS.sentence("P6: What is worked on is as the latest REVISION then: how many KEYS it has");
        RevisionTree x = Checks.busy();
        due("the first time", 3, x.forget());
        String before = Checks.shown(x, 1, 2, 4);
        due("the second time", 3, x.forget());
        CHECKS.same("forget again", before, Checks.shown(x, 1, 2, 4));
        x.commit(0);
        due("behind a cut", 3, x.forget());
        CHECKS.same("forget behind a cut", before, Checks.shown(x, 1, 2, 4));
        due("right behind a commit", 4, x.commit(-1));
        due("forget", 3, x.forget());
    }

    private static void forgetLeavesTheRevisions() {
        CHECKS.sentence("P6: What is worked on is as the latest REVISION then");
        RevisionTree x = Checks.busy();
        due("forget", 3, x.forget());
        due("as revision 3, which reader 3 is on", x.digest(3), x.digest(-1));
        due("put anew is forgotten", Checks.NONE, x.get(-1, 4));
        due("put again is forgotten, VALUE", 20, x.get(-1, 2));
        due("put again is forgotten, SIZE", 102, x.size(-1, 2));
        due("removed is forgotten", 10, x.get(-1, 1));
        due("reader 0", RevisionTree.GONE, x.count(0));
        due("reader 1", 1, x.count(1));
        due("reader 2", 2, x.count(2));
        due("reader 3", 3, x.count(3));
        x.put(3, 31, 0);
        due("revision 3 is apart", 30, x.get(3, 3));
        due("no number is used up", 3, x.open(0));
        due("the next number", 4, x.commit(-1));
    }

    private static void openTakes0To3() {
        CHECKS.sentence("P7: Reader r (0 to 3) is on the latest REVISION then: its number");
        for (int r = 0; r <= 3; r++) {
            RevisionTree x = Checks.busy();
            due("open(" + r + ")", 3, x.open(r));
            for (int other = 0; other <= 3; other++) {
                int stays = other == 0 ? RevisionTree.GONE : other;
                due("count(" + other + ")", other == r ? 3 : stays, x.count(other));
            }
            due("worked on stays", 4, x.count(-1));
            due("again", 3, x.open(r));
        }
        due("on a new object", 0, new RevisionTree().open(3));
    }

    private static void openRefusesAnotherReader() {
        CHECKS.sentence("P7: REFUSED for another r");
        RevisionTree x = Checks.busy();
        String before = Checks.shown(x, 2);
        int[] wrong = {-1, 4, -2, 5, LEAST, GREATEST};
        for (int r : wrong) {
            due("open(" + r + ")", RevisionTree.REFUSED, x.open(r));
            CHECKS.same("open(" + r + ")", before, Checks.shown(x, 2));
        }
        due("open(0)", 3, x.open(0));
        due("open(3)", 3, x.open(3));
        due("on a new object", RevisionTree.REFUSED, new RevisionTree().open(-1));
        due("on a new object", RevisionTree.REFUSED, new RevisionTree().open(4));
    }

    private static void openTakesTheLatestAlone() {
        CHECKS.sentence("P7: is on the latest REVISION then");
        RevisionTree x = new RevisionTree();
        x.put(1, 10, 100);
        due("before a commit", 0, x.open(0));
        due("not what is worked on", 0, x.count(0));
        x.commit(-1);
        due("it stays behind a commit", 0, x.count(0));
        due("open", 1, x.open(0));
        due("what was committed", 10, x.get(0, 1));
        x.put(1, 11, 101);
        due("it stays behind a put", 10, x.get(0, 1));
        due("open again", 1, x.open(0));
        due("not what is worked on", 10, x.get(0, 1));
    }

    private static void openBehindACut() {
        CHECKS.sentence("P7: is on the latest REVISION then: its number");
        RevisionTree x = new RevisionTree();
        x.put(1, 10, 100);
        x.commit(0);
        due("the first was cut", 0, x.open(0));
        due("its KEYS", 0, x.count(0));
        x.put(1, 11, 101);
        x.commit(-1);
        x.put(1, 12, 102);
        x.commit(3);
        due("the one behind it was cut", 1, x.open(0));
        due("what was not cut", 11, x.get(0, 1));
    }

    private static void openWhenGone() {
        CHECKS.sentence("P7: is on the latest REVISION then: its number");
        RevisionTree x = new RevisionTree();
        for (int i = 1; i <= 30; i++) {
            x.put(0, i, 0);
            x.commit(-1);
        }
        for (int r = 0; r <= 3; r++) {
            due("gone", RevisionTree.GONE, x.count(r));
            due("open(" + r + ")", 30, x.open(r));
            due("to be read then", 30, x.get(r, 0));
        }
    }
}
