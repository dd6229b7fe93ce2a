/** The boundary cases that promises 1 to 4 name, a test for each. */
public final class ChangesEdgesTest {
    private static final Checks CHECKS = new Checks();
    private static final int LEAST = Integer.MIN_VALUE;
    private static final int GREATEST = Integer.MAX_VALUE;

    public static void main(String[] args) {
        newObjectHasNoKeys();
        putIsNewOrNot();
        putRefusesSizes();
        putRefusesBeforeItIsFull();
        putIsFullAtThe401st();
        putWhenFullTakesKeysThatAreThere();
        putHasRoomAgain();
        putIsFullForWhatIsWorkedOnAlone();
        someTakes1To60();
        someRefusesAnotherMany();
        someKeysWrap();
        someStepsWrap();
        someValuesWrap();
        someSizesOfEvenOnes();
        someSizesOfOddOnes();
        someIsOneBehindTheOther();
        someCountsThoseThatWereNotThere();
        someWithRoomForAll();
        someWithoutRoomForTheLast();
        someWithoutRoomForAny();
        somePutsTheOnesBehind();
        removeUpToTheLastKey();
        removeFromFull();
        removeAtBothEnds();
        removeOfNone();
        removeKnowsWhatIsWorkedOnAlone();
        CHECKS.close();
    }

    private static void due(String call, long want, long got) {
        CHECKS.due(call, want, got);
    }

    private static void newObjectHasNoKeys() {
        CHECKS.sentence("P1: No KEYS");
        RevisionTree x = new RevisionTree();
        for (int r = -1; r <= 3; r++) {
            due("count(" + r + ")", 0, x.count(r));
            due("digest(" + r + ")", 0, x.digest(r));
            due("next(" + r + ", least)", Checks.NONE, x.next(r, LEAST));
            due("get(" + r + ", 0)", Checks.NONE, x.get(r, 0));
            due("size(" + r + ", 0)", RevisionTree.NONE, x.size(r, 0));
        }
        due("remove(0)", RevisionTree.NONE, x.remove(0));
        due("forget()", 0, x.forget());
        due("room for 60", 60, x.some(0, 1, 60, 0));
        due("another object has none", 0, new RevisionTree().count(-1));
    }

    private static void putIsNewOrNot() {
        CHECKS.sentence("P2: 1 if it was not there, else 0");
        RevisionTree x = new RevisionTree();
        due("the first time", 1, x.put(5, 50, 3));
        due("the second time", 0, x.put(5, 51, 4));
        due("the VALUE then", 51, x.get(-1, 5));
        due("the SIZE then", 4, x.size(-1, 5));
        due("count then", 1, x.count(-1));
        due("with nothing new", 0, x.put(5, 51, 4));
        due("the one below", 1, x.put(4, 40, 0));
        due("the one above", 1, x.put(6, 60, 0));
        due("the one between stays", 51, x.get(-1, 5));
        due("count of three", 3, x.count(-1));
        x.remove(5);
        due("behind its removal", 1, x.put(5, 52, 5));
        x.forget();
        due("behind forget", 1, x.put(5, 53, 6));
        x.commit(-1);
        due("behind a commit", 0, x.put(5, 54, 7));
        x.remove(5);
        due("removed, though committed", 1, x.put(5, 55, 8));
        x.remove(5);
        x.commit(0);
        due("a cut brings it back", 0, x.put(5, 56, 9));
    }

    private static void putRefusesSizes() {
        CHECKS.sentence("P2: REFUSED if n is not 0 to 300");
        RevisionTree x = Checks.busy();
        String before = Checks.shown(x, 2, 6);
        int[] wrong = {-1, 301, -300, LEAST, GREATEST};
        for (int n : wrong) {
            due("a new KEY with " + n, RevisionTree.REFUSED, x.put(6, 60, n));
            due("an old KEY with " + n, RevisionTree.REFUSED, x.put(2, 60, n));
            CHECKS.same("SIZE " + n, before, Checks.shown(x, 2, 6));
        }
        due("a new KEY with 0", 1, x.put(6, 60, 0));
        due("its SIZE", 0, x.size(-1, 6));
        due("an old KEY with 300", 0, x.put(2, 61, 300));
        due("its SIZE", 300, x.size(-1, 2));
        due("its VALUE", 61, x.get(-1, 2));
        due("an old KEY with 0", 0, x.put(2, 62, 0));
        due("its SIZE", 0, x.size(-1, 2));
        due("a new KEY with 300", 1, x.put(7, 70, 300));
        due("its SIZE", 300, x.size(-1, 7));
        due("no number is used up", 4, x.commit(-1));
    }

    private static void putRefusesBeforeItIsFull() {
        CHECKS.sentence("P2: REFUSED if n is not 0 to 300; FULL if it would be the 401st");
        RevisionTree x = Checks.full();
        String before = Checks.shown(x, 1, 2);
        due("the 401st with -1", RevisionTree.REFUSED, x.put(1, 0, -1));
        due("the 401st with 301", RevisionTree.REFUSED, x.put(1, 0, 301));
        due("the 401st with 0", RevisionTree.FULL, x.put(1, 0, 0));
        due("the 401st with 300", RevisionTree.FULL, x.put(1, 0, 300));
        due("one that is there with 301", RevisionTree.REFUSED, x.put(2, 0, 301));
        CHECKS.same("all of these", before, Checks.shown(x, 1, 2));
    }

    private static void putIsFullAtThe401st() {
        CHECKS.sentence("P2: FULL if it would be the 401st");
        RevisionTree x = new RevisionTree();
        for (int i = 1; i <= 400; i++) {
            due("the KEY number " + i, 1, x.put(10 * i, i, i % 301));
        }
        String before = Checks.shown(x, 10, 4000);
        int[] others = {LEAST, 9, 11, 2005, 3999, 4001, GREATEST};
        for (int k : others) {
            due("the 401st, " + k, RevisionTree.FULL, x.put(k, 7, 8));
        }
        due("it is not there", Checks.NONE, x.get(-1, 4001));
        due("count", 400, x.count(-1));
        CHECKS.same("FULL", before, Checks.shown(x, 10, 4000));
    }

    private static void putWhenFullTakesKeysThatAreThere() {
        CHECKS.sentence("P2: FULL if it would be the 401st");
        RevisionTree x = Checks.full();
        int[] there = {0, 2, 400, 796, 798};
        for (int k : there) {
            due("one of the 400, " + k, 0, x.put(k, -k - 1, 300));
            due("its VALUE", -k - 1, x.get(-1, k));
            due("its SIZE", 300, x.size(-1, k));
        }
        due("count", 400, x.count(-1));
        due("the 401st", RevisionTree.FULL, x.put(1, 0, 0));
    }

    private static void putHasRoomAgain() {
        CHECKS.sentence("P2: FULL if it would be the 401st");
        RevisionTree x = Checks.full();
        due("the 401st", RevisionTree.FULL, x.put(-1, 1, 1));
        x.remove(798);
        due("in the place of another", 1, x.put(-1, 1, 1));
        due("the 401st again", RevisionTree.FULL, x.put(798, 1, 1));
        x.forget();
        due("behind forget", 1, x.put(798, 1, 1));
        due("count behind forget", 1, x.count(-1));
        RevisionTree y = Checks.full();
        y.commit(0);
        due("behind a cut", 1, y.put(1, 1, 1));
        due("count behind a cut", 1, y.count(-1));
    }

    private static void putIsFullForWhatIsWorkedOnAlone() {
        CHECKS.sentence("P2: FULL if it would be the 401st");
        RevisionTree x = Checks.full();
        x.commit(-1);
        x.open(0);
        due("behind a commit", RevisionTree.FULL, x.put(1, 1, 1));
        x.remove(0);
        due("the reader's 400 take no room", 1, x.put(1, 1, 1));
        due("the reader has 400", 400, x.count(0));
        due("the reader has not the new one", Checks.NONE, x.get(0, 1));
        due("the reader has the old one", 0, x.get(0, 0));
        due("forget takes all 400", 400, x.forget());
        due("full behind forget", RevisionTree.FULL, x.put(1, 1, 1));
    }

    private static void someTakes1To60() {
        CHECKS.sentence("P3: many (1 to 60) KEYS from + i * step (wrapping, i from 0)");
        RevisionTree x = new RevisionTree();
        due("one", 1, x.some(5, 3, 1, 9));
        due("its VALUE", 9, x.get(-1, 5));
        due("none behind it", Checks.NONE, x.next(-1, 5));
        due("none before it", 5, x.next(-1, LEAST));
        RevisionTree y = new RevisionTree();
        due("sixty", 60, y.some(5, 3, 60, 9));
        due("count", 60, y.count(-1));
        due("the first", 9, y.get(-1, 5));
        due("the last", 9 + 59, y.get(-1, 5 + 59 * 3));
        due("the last one's SIZE", (9 + 7 * 59) % 128, y.size(-1, 5 + 59 * 3));
        due("none behind it", Checks.NONE, y.next(-1, 5 + 59 * 3));
        due("none before the first", 5, y.next(-1, LEAST));
    }

    private static void someRefusesAnotherMany() {
        CHECKS.sentence("P3: REFUSED for another many");
        RevisionTree x = Checks.busy();
        RevisionTree full = Checks.full();
        String before = Checks.shown(x, 2, 6);
        String fullBefore = Checks.shown(full, 2, 3);
        int[] wrong = {0, -1, 61, 62, -60, LEAST, GREATEST};
        for (int many : wrong) {
            due("many " + many, RevisionTree.REFUSED, x.some(2, 1, many, 77));
            due("many " + many + " on one KEY", RevisionTree.REFUSED, x.some(6, 0, many, 77));
            CHECKS.same("many " + many, before, Checks.shown(x, 2, 6));
            due("many " + many + " when full", RevisionTree.REFUSED, full.some(2, 1, many, 77));
        }
        CHECKS.same("refused when full", fullBefore, Checks.shown(full, 2, 3));
        due("many 1", 1, x.some(6, 0, 1, 77));
        due("many 60", 59, x.some(6, 1, 60, 77));
        due("no number is used up", 4, x.commit(-1));
    }

    private static void someKeysWrap() {
        CHECKS.sentence("P3: from + i * step (wrapping, i from 0)");
        RevisionTree up = new RevisionTree();
        due("up over the greatest", 4, up.some(GREATEST - 1, 1, 4, 10));
        due("below the greatest", 10, up.get(-1, GREATEST - 1));
        due("the greatest", 11, up.get(-1, GREATEST));
        due("the least", 12, up.get(-1, LEAST));
        due("above the least", 13, up.get(-1, LEAST + 1));
        due("in order: above the least", LEAST + 1, up.next(-1, LEAST));
        due("in order: below the greatest", GREATEST - 1, up.next(-1, LEAST + 1));
        due("in order: none", Checks.NONE, up.next(-1, GREATEST));
        RevisionTree down = new RevisionTree();
        due("down over the least", 3, down.some(LEAST + 1, -1, 3, 10));
        due("above the least", 10, down.get(-1, LEAST + 1));
        due("the least", 11, down.get(-1, LEAST));
        due("the greatest", 12, down.get(-1, GREATEST));
        RevisionTree edge = new RevisionTree();
        due("up to the greatest", 2, edge.some(GREATEST - 1, 1, 2, 10));
        due("not over it", Checks.NONE, edge.get(-1, LEAST));
    }

    private static void someStepsWrap() {
        CHECKS.sentence("P3: from + i * step (wrapping, i from 0)");
        RevisionTree x = new RevisionTree();
        due("a quarter of all ints, five times", 4, x.some(3, 1 << 30, 5, 10));
        due("round to the first", 14, x.get(-1, 3));
        due("the second", 11, x.get(-1, 3 + (1 << 30)));
        due("the third", 12, x.get(-1, 3 + LEAST));
        due("the fourth", 13, x.get(-1, 3 - (1 << 30)));
        RevisionTree y = new RevisionTree();
        due("the greatest step", 60, y.some(0, GREATEST, 60, 10));
        due("i = 1", 11, y.get(-1, GREATEST));
        due("i = 2", 12, y.get(-1, -2));
        due("i = 58", 68, y.get(-1, -58));
        due("i = 59", 69, y.get(-1, GREATEST - 58));
        RevisionTree z = new RevisionTree();
        due("the least step", 2, z.some(7, LEAST, 60, 10));
        due("the last even one", 68, z.get(-1, 7));
        due("the last odd one", 69, z.get(-1, 7 + LEAST));
    }

    private static void someValuesWrap() {
        CHECKS.sentence("P3: with the VALUES value + i");
        RevisionTree x = new RevisionTree();
        due("up to the greatest", 3, x.some(0, 1, 3, GREATEST - 1));
        due("below the greatest", GREATEST - 1, x.get(-1, 0));
        due("the greatest", GREATEST, x.get(-1, 1));
        due("behind the greatest", LEAST, x.get(-1, 2));
        due("down at the least", 2, x.some(10, 1, 2, LEAST));
        due("the least", LEAST, x.get(-1, 10));
        due("above the least", LEAST + 1, x.get(-1, 11));
        due("around 0", 3, x.some(20, 1, 3, -1));
        due("-1", -1, x.get(-1, 20));
        due("0", 0, x.get(-1, 21));
        due("1", 1, x.get(-1, 22));
    }

    private static void someSizesOfEvenOnes() {
        CHECKS.sentence("P3: the SIZES 0 for even i");
        int[] values = {1, -1, 127, GREATEST, LEAST};
        for (int value : values) {
            RevisionTree x = new RevisionTree();
            x.put(0, 0, 300);
            due("60 from " + value, 59, x.some(0, 1, 60, value));
            for (int i = 0; i < 60; i += 2) {
                due("SIZE of " + i, 0, x.size(-1, i));
            }
        }
    }

    private static void someSizesOfOddOnes() {
        CHECKS.sentence("P3: the remainder of value + 7 i by 128 (0 to 127) for odd ones");
        int[] values = {120, 121, -7, -8, -6, -135, -136, 0, GREATEST, GREATEST - 7, LEAST};
        int[] sizes = {127, 0, 0, 127, 1, 0, 127, 7, 6, 127, 7};
        for (int j = 0; j < values.length; j++) {
            RevisionTree x = new RevisionTree();
            due("two from " + values[j], 2, x.some(0, 1, 2, values[j]));
            due("SIZE for i = 1 from " + values[j], sizes[j], x.size(-1, 1));
        }
        for (int value = -300; value <= 300; value += 25) {
            RevisionTree x = new RevisionTree();
            x.some(0, 1, 60, value);
            for (int i = 1; i < 60; i += 2) {
                due("SIZE for i = " + i + " from " + value, Math.floorMod(value + 7 * i, 128),
                        x.size(-1, i));
            }
        }
    }

    private static void someIsOneBehindTheOther() {
        CHECKS.sentence("P3: are put one behind the other, as for put");
        RevisionTree x = new RevisionTree();
        due("sixty on one KEY", 1, x.some(4, 0, 60, 10));
        due("count", 1, x.count(-1));
        due("the last VALUE", 69, x.get(-1, 4));
        due("the last SIZE", (10 + 7 * 59) % 128, x.size(-1, 4));
        due("again", 0, x.some(4, 0, 59, 10));
        due("the last VALUE", 68, x.get(-1, 4));
        due("the last SIZE, an even one's", 0, x.size(-1, 4));
        due("one", 0, x.some(4, 0, 1, 10));
        due("its VALUE", 10, x.get(-1, 4));
    }

    private static void someCountsThoseThatWereNotThere() {
        CHECKS.sentence("P3: how many of them were not there");
        RevisionTree x = new RevisionTree();
        due("all of them", 60, x.some(0, 1, 60, 100));
        due("none of them", 0, x.some(0, 1, 60, 200));
        due("put all the same", 259, x.get(-1, 59));
        due("the last of them", 1, x.some(1, 1, 60, 300));
        due("the first of them", 1, x.some(-1, 1, 60, 400));
        due("the ends", 2, x.some(-2, 32, 3, 500));
        due("count", 64, x.count(-1));
        x.remove(30);
        due("a removed one", 1, x.some(29, 1, 3, 600));
        due("its VALUE", 601, x.get(-1, 30));
    }

    private static void someWithRoomForAll() {
        CHECKS.sentence("P3: those for which there is no room count not");
        RevisionTree x = Checks.full();
        x.remove(0);
        x.remove(400);
        x.remove(798);
        due("three where there is room for three", 3, x.some(1001, 1, 3, 50));
        due("the last", 52, x.get(-1, 1003));
        due("count", 400, x.count(-1));
        due("none more", 0, x.some(1004, 1, 1, 50));
        due("it is not there", Checks.NONE, x.get(-1, 1004));
    }

    private static void someWithoutRoomForTheLast() {
        CHECKS.sentence("P3: those for which there is no room count not");
        RevisionTree x = Checks.full();
        x.remove(0);
        x.remove(798);
        due("three where there is room for two", 2, x.some(1001, 1, 3, 50));
        due("the first", 50, x.get(-1, 1001));
        due("the second", 51, x.get(-1, 1002));
        due("the second one's SIZE", 57, x.size(-1, 1002));
        due("not the third", Checks.NONE, x.get(-1, 1003));
        due("none behind the second", Checks.NONE, x.next(-1, 1002));
        due("count", 400, x.count(-1));
    }

    private static void someWithoutRoomForAny() {
        CHECKS.sentence("P3: those for which there is no room count not");
        RevisionTree x = Checks.full();
        String before = Checks.shown(x, -59, 0);
        due("sixty below all", 0, x.some(-60, 1, 60, 50));
        due("sixty between", 0, x.some(1, 2, 60, 50));
        due("sixty above all", 0, x.some(799, 1, 60, 50));
        due("one on and on", 0, x.some(799, 0, 60, 50));
        CHECKS.same("no room", before, Checks.shown(x, -59, 0));
    }

    private static void somePutsTheOnesBehind() {
        CHECKS.sentence("P3: the ones behind them are put all the same");
        RevisionTree x = Checks.full();
        due("no room for the first and third", 0, x.some(-1, 1, 4, 50));
        due("not the first", Checks.NONE, x.get(-1, -1));
        due("the second, put again", 51, x.get(-1, 0));
        due("its SIZE", 57, x.size(-1, 0));
        due("not the third", Checks.NONE, x.get(-1, 1));
        due("the fourth, put again", 53, x.get(-1, 2));
        due("its SIZE", 71, x.size(-1, 2));
        due("count", 400, x.count(-1));
        x.remove(0);
        due("room for the first of two that take turns", 1, x.some(5, LEAST, 60, 100));
        due("the first, put again and again", 158, x.get(-1, 5));
        due("never the second", Checks.NONE, x.get(-1, 5 + LEAST));
        due("count", 400, x.count(-1));
    }

    private static void removeUpToTheLastKey() {
        CHECKS.sentence("P4: A KEY goes: how many there are then");
        RevisionTree x = new RevisionTree();
        x.put(1, 10, 100);
        x.put(2, 20, 200);
        due("of two", 1, x.remove(1));
        due("the other stays", 20, x.get(-1, 2));
        due("its SIZE stays", 200, x.size(-1, 2));
        due("of one", 0, x.remove(2));
        due("count", 0, x.count(-1));
        due("digest", 0, x.digest(-1));
        due("none is left", Checks.NONE, x.next(-1, LEAST));
        due("of none", RevisionTree.NONE, x.remove(2));
        due("a table without KEYS can be committed", 1, x.commit(-1));
    }

    private static void removeFromFull() {
        CHECKS.sentence("P4: A KEY goes: how many there are then");
        RevisionTree x = Checks.full();
        for (int i = 0; i < 400; i++) {
            int k = 2 * (i * 7 % 400);
            due("remove(" + k + ")", 399 - i, x.remove(k));
        }
        due("count", 0, x.count(-1));
        due("room again", 60, x.some(0, 1, 60, 0));
    }

    private static void removeAtBothEnds() {
        CHECKS.sentence("P4: A KEY goes");
        RevisionTree x = Checks.full();
        due("the least", 399, x.remove(0));
        due("the least then", 2, x.next(-1, LEAST));
        due("the greatest", 398, x.remove(798));
        due("none behind the greatest then", Checks.NONE, x.next(-1, 796));
        due("between", 397, x.remove(400));
        due("it is left out", 402, x.next(-1, 398));
        due("VALUE below it", 199, x.get(-1, 398));
        due("VALUE above it", 201, x.get(-1, 402));
        due("SIZE above it", (180 + 7 * 21) % 128, x.size(-1, 402));
        RevisionTree y = new RevisionTree();
        y.put(LEAST, 1, 1);
        y.put(GREATEST, 2, 2);
        due("the greatest int", 1, y.remove(GREATEST));
        due("the least int stays", 1, y.get(-1, LEAST));
        due("the least int", 0, y.remove(LEAST));
    }

    private static void removeOfNone() {
        CHECKS.sentence("P4: NONE if it is not there");
        due("no KEYS at all", RevisionTree.NONE, new RevisionTree().remove(0));
        RevisionTree x = Checks.busy();
        String before = Checks.shown(x, 2, 3);
        int[] others = {1, 6, 0, -1, LEAST, GREATEST};
        for (int k : others) {
            due("remove(" + k + ")", RevisionTree.NONE, x.remove(k));
            CHECKS.same("remove(" + k + ")", before, Checks.shown(x, 2, 3));
        }
        due("the one above 1", 3, x.remove(2));
        due("once more", RevisionTree.NONE, x.remove(2));
        due("the one below 6", 2, x.remove(5));
        due("no number is used up", 4, x.commit(-1));
        RevisionTree full = Checks.full();
        due("between when full", RevisionTree.NONE, full.remove(1));
        due("above when full", RevisionTree.NONE, full.remove(799));
        due("count when full", 400, full.count(-1));
    }

    private static void removeKnowsWhatIsWorkedOnAlone() {
        CHECKS.sentence("P4: NONE if it is not there");
        RevisionTree x = new RevisionTree();
        x.put(1, 10, 100);
        x.commit(-1);
        x.open(0);
        due("one that is committed", 0, x.remove(1));
        due("the reader has it", 10, x.get(0, 1));
        due("there for the reader alone", RevisionTree.NONE, x.remove(1));
        x.forget();
        due("back by forget", 0, x.remove(1));
        x.commit(7);
        due("back by a cut", 0, x.remove(1));
        x.put(2, 20, 200);
        x.forget();
        due("forgotten", RevisionTree.NONE, x.remove(2));
    }
}
