import java.util.ArrayList;
import java.util.List;
import java.util.TreeMap;

/**
 * All promises at once: long runs of mixed calls beside a model that keeps every revision as a
 * map of its own. The calls come from a fixed row of numbers, so that each run is the same.
 */
public final class ModelTest {
    private static final Checks CHECKS = new Checks();
    private static final int RUNS = 400;
    private static final int CALLS = 512;

    private record Entry(int value, int size) { }

    private static final class Model {
        private TreeMap<Integer, Entry> worked = new TreeMap<>();
        private final List<TreeMap<Integer, Entry>> revisions = new ArrayList<>();
        private final int[] readers = new int[4];

        Model() {
            revisions.add(new TreeMap<>());
        }

        private int latest() {
            return revisions.size() - 1;
        }

        int put(int k, int value, int n) {
            if (n < 0 || n > 300) {
                return -1;
            }
            if (!worked.containsKey(k) && worked.size() == 400) {
                return -3;
            }
            return worked.put(k, new Entry(value, n)) == null ? 1 : 0;
        }

        int some(int from, int step, int many, int value) {
            if (many < 1 || many > 60) {
                return -1;
            }
            int added = 0;
            for (int i = 0; i < many; i++) {
                int n = i % 2 == 0 ? 0 : (int) Math.floorMod(value + 7L * i, 128L);
                added += Math.max(0, put(from + i * step, value + i, n));
            }
            return added;
        }

        int remove(int k) {
            return worked.remove(k) == null ? -2 : worked.size();
        }

        int commit(int cut) {
            if (cut >= 0) {
                forget();
                return -5;
            }
            revisions.add(new TreeMap<>(worked));
            return latest();
        }

        int forget() {
            worked = new TreeMap<>(revisions.get(latest()));
            return worked.size();
        }

        int open(int r) {
            if (r < 0 || r > 3) {
                return -1;
            }
            readers[r] = latest();
            return latest();
        }

        private int state(int r) {
            if (r < -1 || r > 3) {
                return -1;
            }
            return r >= 0 && readers[r] < latest() - 2 ? -4 : 0;
        }

        private TreeMap<Integer, Entry> seenBy(int r) {
            return r == -1 ? worked : revisions.get(readers[r]);
        }

        private static long orNone(Integer found) {
            return found == null ? (1L << 40) - 2 : found;
        }

        long get(int r, int k) {
            if (state(r) != 0) {
                return (1L << 40) + state(r);
            }
            Entry entry = seenBy(r).get(k);
            return orNone(entry == null ? null : Integer.valueOf(entry.value()));
        }

        long next(int r, int k) {
            return state(r) != 0 ? (1L << 40) + state(r) : orNone(seenBy(r).higherKey(k));
        }

        int size(int r, int k) {
            if (state(r) != 0) {
                return state(r);
            }
            Entry entry = seenBy(r).get(k);
            return entry == null ? -2 : entry.size();
        }

        int count(int r) {
            return state(r) != 0 ? state(r) : seenBy(r).size();
        }

        int digest(int r) {
            if (state(r) != 0) {
                return state(r);
            }
            int h = 0;
            for (Integer k : seenBy(r).keySet()) {
                Entry entry = seenBy(r).get(k);
                h = h * 31 + k;
                h = h * 31 + entry.value() + entry.size();
            }
            return h;
        }
    }

    /** A plain row of numbers (Knuth's multiplier), the same on every machine. */
    private static final class Row {
        private long state;

        Row(long seed) {
            state = seed;
        }

        int word() {
            state = state * 6364136223846793005L + 1442695040888963407L;
            return (int) (state >>> 32);
        }

        int below(int bound) {
            return Math.floorMod(word(), bound);
        }
    }

    private static final class Pair {
        private final RevisionTree tree = new RevisionTree();
        private final Model model = new Model();
        private final Row row;
        private final int run;
        private final int keyRange;
        private int call = 0;

        Pair(int run) {
            this.run = run;
            row = new Row(run);
            int[] ranges = {12, 100, 450, 3000};
            keyRange = ranges[run % ranges.length];
        }

        private void due(String text, long want, long got) {
            call++;
            CHECKS.due("run " + run + ", call " + call + ": " + text, want, got);
        }

        private int key() {
            int[] edges = {Integer.MIN_VALUE, Integer.MAX_VALUE, Integer.MIN_VALUE + 1, -1, 0};
            int kind = row.below(40);
            return kind < edges.length ? edges[kind] : row.below(keyRange) - keyRange / 2;
        }

        private int reader() {
            return row.below(30) == 0 ? row.word() : row.below(5) - 1;
        }

        private void change() {
            int k = key();
            int value = row.below(4) == 0 ? row.word() : row.below(1000) - 500;
            int kind = row.below(20);
            if (kind < 8) {
                int n = row.below(20) == 0 ? row.below(2) * 302 - 1 : row.below(301);
                due("put(" + k + ", " + value + ", " + n + ")",
                        model.put(k, value, n), tree.put(k, value, n));
            } else if (kind < 13) {
                int many = row.below(62);
                int step = row.below(10) == 0 ? row.word() : row.below(15) - 7;
                due("some(" + k + ", " + step + ", " + many + ", " + value + ")",
                        model.some(k, step, many, value), tree.some(k, step, many, value));
            } else {
                Integer near = row.below(3) == 0 ? null : model.worked.ceilingKey(k);
                int gone = near == null ? k : near;
                due("remove(" + gone + ")", model.remove(gone), tree.remove(gone));
            }
        }

        private void turn() {
            int kind = row.below(12);
            if (kind < 6) {
                due("commit(-1)", model.commit(-1), tree.commit(-1));
            } else if (kind < 7) {
                int cut = row.word() >>> (1 + row.below(31));
                due("commit(" + cut + ")", model.commit(cut), tree.commit(cut));
            } else if (kind < 8) {
                due("forget()", model.forget(), tree.forget());
            } else {
                int r = reader();
                due("open(" + r + ")", model.open(r), tree.open(r));
            }
        }

        private void read() {
            int r = reader();
            int k = key();
            String args = "(" + r + ", " + k + ")";
            switch (row.below(5)) {
                case 0 -> due("get" + args, model.get(r, k), tree.get(r, k));
                case 1 -> due("next" + args, model.next(r, k), tree.next(r, k));
                case 2 -> due("size" + args, model.size(r, k), tree.size(r, k));
                case 3 -> due("count(" + r + ")", model.count(r), tree.count(r));
                default -> due("digest(" + r + ")", model.digest(r), tree.digest(r));
            }
        }

        void play() {
            while (call < CALLS - 5) {
                int kind = row.below(10);
                if (kind < 4) {
                    change();
                } else if (kind < 5) {
                    turn();
                } else {
                    read();
                }
            }
            for (int r = -1; r <= 3; r++) {
                due("digest(" + r + ")", model.digest(r), tree.digest(r));
            }
        }
    }

    public static void main(String[] args) {
        for (int run = 0; run < RUNS; run++) {
            new Pair(run).play();
        }
        CHECKS.close();
    }
}
