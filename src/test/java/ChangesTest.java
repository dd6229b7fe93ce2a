/** Promises 1 to 4: a new object, put, some, remove. */
public final class ChangesTest {
    private static final Checks CHECKS = new Checks();

    public static void main(String[] args) {
        newObject();
        objectsAreApart();
        putNewAndAgain();
        putSizes();
        putWhenFull();
        someInARow();
        someWrapping();
        someSizes();
        someOnOneKey();
        someWhenNearlyFull();
        someRefused();
        removeKeys();
        removeMakesRoom();
        CHECKS.close();
    }

    private static void due(String call, long want, long got) {
        CHECKS.due(call, want, got);
    }

    private static RevisionTree fullByPut() {
        RevisionTree x = new RevisionTree();
        for (int i = 0; i < 400; i++) {
            due("P2 put " + i, 1, x.put(2 * i, i, i % 301));
        }
        return x;
    }

    private static void newObject() {
        for (int r = -1; r <= 3; r++) {
            RevisionTree x = new RevisionTree();
            due("P1 count " + r, 0, x.count(r));
            due("P1 digest " + r, 0, x.digest(r));
            due("P1 get " + r, Checks.NONE, x.get(r, 0));
            due("P1 size " + r, RevisionTree.NONE, x.size(r, 0));
            due("P1 next " + r, Checks.NONE, x.next(r, Integer.MIN_VALUE));
        }
        due("P1 remove", RevisionTree.NONE, new RevisionTree().remove(0));
        due("P1 forget", 0, new RevisionTree().forget());
        due("P1 open", 0, new RevisionTree().open(0));
        due("P1 commit", 1, new RevisionTree().commit(-1));
    }

    private static void objectsAreApart() {
        RevisionTree x = new RevisionTree();
        RevisionTree y = new RevisionTree();
        x.put(1, 2, 3);
        x.commit(-1);
        due("P1 the other's count", 0, y.count(-1));
        due("P1 the other's commit", 1, y.commit(-1));
    }

    private static void putNewAndAgain() {
        RevisionTree x = new RevisionTree();
        due("P2 new", 1, x.put(7, 70, 1));
        due("P2 again", 0, x.put(7, -71, 2));
        due("P2 the value", -71, x.get(-1, 7));
        due("P2 the size", 2, x.size(-1, 7));
        due("P2 the same again", 0, x.put(7, -71, 2));
        due("P2 count", 1, x.count(-1));
        int[] keys = {0, -1, 1, Integer.MIN_VALUE, Integer.MAX_VALUE};
        for (int i = 0; i < keys.length; i++) {
            due("P2 key " + keys[i], 1, x.put(keys[i], keys[i], i));
        }
        for (int i = 0; i < keys.length; i++) {
            due("P2 value of " + keys[i], keys[i], x.get(-1, keys[i]));
            due("P2 size of " + keys[i], i, x.size(-1, keys[i]));
        }
        due("P2 count", 6, x.count(-1));
    }

    private static void putSizes() {
        RevisionTree x = new RevisionTree();
        due("P2 size 0", 1, x.put(1, 1, 0));
        due("P2 size 300", 1, x.put(2, 2, 300));
        int[] wrong = {-1, 301, Integer.MIN_VALUE, Integer.MAX_VALUE};
        for (int n : wrong) {
            due("P2 refused new " + n, RevisionTree.REFUSED, x.put(3, 3, n));
            due("P2 refused old " + n, RevisionTree.REFUSED, x.put(2, 9, n));
        }
        due("P2 count", 2, x.count(-1));
        due("P2 the value stays", 2, x.get(-1, 2));
        due("P2 the size stays", 300, x.size(-1, 2));
    }

    private static void putWhenFull() {
        RevisionTree x = fullByPut();
        int before = x.digest(-1);
        due("P2 the 401st", RevisionTree.FULL, x.put(1, 1, 1));
        due("P2 the 401st, least", RevisionTree.FULL, x.put(-1, 1, 1));
        due("P2 the 401st, greatest", RevisionTree.FULL, x.put(800, 1, 1));
        due("P2 refused before full", RevisionTree.REFUSED, x.put(1, 1, 301));
        due("P2 full changes nothing", before, x.digest(-1));
        due("P2 one that is there", 0, x.put(798, -5, 6));
        due("P2 its value", -5, x.get(-1, 798));
        due("P2 count", 400, x.count(-1));
    }

    private static void someInARow() {
        RevisionTree x = new RevisionTree();
        due("P3 three", 3, x.some(10, -4, 3, 100));
        due("P3 first value", 100, x.get(-1, 10));
        due("P3 second value", 101, x.get(-1, 6));
        due("P3 third value", 102, x.get(-1, 2));
        due("P3 half of them new", 2, x.some(6, 2, 4, 0));
        due("P3 put again", 0, x.get(-1, 6));
        due("P3 put again", 2, x.get(-1, 10));
        due("P3 count", 5, x.count(-1));
        due("P3 one", 1, new RevisionTree().some(0, 0, 1, 0));
        due("P3 sixty", 60, new RevisionTree().some(0, 1, 60, 0));
    }

    private static void someWrapping() {
        RevisionTree x = new RevisionTree();
        due("P3 keys wrap", 3, x.some(Integer.MAX_VALUE, 1, 3, Integer.MAX_VALUE));
        due("P3 first", Integer.MAX_VALUE, x.get(-1, Integer.MAX_VALUE));
        due("P3 second, values wrap", Integer.MIN_VALUE, x.get(-1, Integer.MIN_VALUE));
        due("P3 third", Integer.MIN_VALUE + 1, x.get(-1, Integer.MIN_VALUE + 1));
        RevisionTree y = new RevisionTree();
        due("P3 a step that wraps", 2, y.some(5, Integer.MIN_VALUE, 4, 0));
        due("P3 the later ones stay", 2, y.get(-1, 5));
        due("P3 the later ones stay", 3, y.get(-1, 5 + Integer.MIN_VALUE));
    }

    private static void someSizes() {
        int[] values = {0, 5, 121, 1000, -1, -7, -8, -1000, Integer.MAX_VALUE, Integer.MIN_VALUE};
        for (int value : values) {
            RevisionTree x = new RevisionTree();
            x.some(0, 1, 60, value);
            for (int i = 0; i < 60; i++) {
                long size = i % 2 == 0 ? 0 : Math.floorMod(value + 7L * i, 128L);
                due("P3 size " + i + " for " + value, size, x.size(-1, i));
            }
        }
    }

    private static void someOnOneKey() {
        RevisionTree x = new RevisionTree();
        due("P3 step 0", 1, x.some(4, 0, 60, 10));
        due("P3 the last value", 69, x.get(-1, 4));
        due("P3 the last size", (10 + 7 * 59) % 128, x.size(-1, 4));
        due("P3 step 0 again", 0, x.some(4, 0, 2, 0));
        due("P3 the last size", 7, x.size(-1, 4));
    }

    private static void someWhenNearlyFull() {
        RevisionTree x = Checks.full();
        x.remove(798);
        due("P3 room for one", 1, x.some(795, 1, 4, 50));
        due("P3 the one", 50, x.get(-1, 795));
        due("P3 between", 51, x.get(-1, 796));
        due("P3 no room", Checks.NONE, x.get(-1, 797));
        due("P3 no room", Checks.NONE, x.get(-1, 798));
        due("P3 none new", 0, x.some(-1, 1, 3, -9));
        due("P3 no room", Checks.NONE, x.get(-1, -1));
        due("P3 the ones behind are put", -8, x.get(-1, 0));
        due("P3 their size", 126, x.size(-1, 0));
        due("P3 count", 400, x.count(-1));
    }

    private static void someRefused() {
        RevisionTree x = Checks.full();
        int before = x.digest(-1);
        int[] wrong = {0, -1, 61, Integer.MIN_VALUE, Integer.MAX_VALUE};
        for (int many : wrong) {
            due("P3 refused " + many, RevisionTree.REFUSED, x.some(0, 1, many, 5));
        }
        due("P3 refused changes nothing", before, x.digest(-1));
    }

    private static void removeKeys() {
        RevisionTree x = new RevisionTree();
        x.some(1, 1, 5, 10);
        due("P4 not there", RevisionTree.NONE, x.remove(0));
        due("P4 not there", RevisionTree.NONE, x.remove(6));
        due("P4 the least", 4, x.remove(1));
        due("P4 the greatest", 3, x.remove(5));
        due("P4 between", 2, x.remove(3));
        due("P4 again", RevisionTree.NONE, x.remove(3));
        due("P4 gone", Checks.NONE, x.get(-1, 3));
        due("P4 the rest", 11, x.get(-1, 2));
        due("P4 the rest", 17, x.size(-1, 2));
        due("P4 the rest", 13, x.get(-1, 4));
        due("P4 next", 4, x.next(-1, 2));
        due("P4 one left", 1, x.remove(4));
        due("P4 none left", 0, x.remove(2));
        due("P4 none there", RevisionTree.NONE, x.remove(2));
    }

    private static void removeMakesRoom() {
        RevisionTree x = Checks.full();
        due("P4 of 400", 399, x.remove(400));
        due("P4 room again", 1, x.put(401, 1, 1));
        due("P4 full again", RevisionTree.FULL, x.put(400, 1, 1));
    }
}
