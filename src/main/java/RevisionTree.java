/**
 * An ordered table that keeps its latest revisions: changes are committed as a whole or not at
 * all, readers go on with the revision that they opened.
 */
public final class RevisionTree {
    public static final int REFUSED = -1, NONE = -2, FULL = -3, GONE = -4, CUT = -5;

    private static final int MOST_KEYS = 400;
    private static final int GREATEST_SIZE = 300;
    private static final int MOST_AT_ONCE = 60;
    private static final int READERS = 4;
    private static final int KEPT_REVISIONS = 3;
    private static final int READABLE = 0;

    /** Above every int, so that no such answer is taken for a VALUE or a KEY. */
    private static final long NO_INT = 1L << 40;

    /**
     * All tables are made here and written over later: a call makes no objects, so that a long
     * run takes no more room than a short one.
     */
    private final Table worked;
    private final Table[] kept;
    private final int[] revisionOfReader;
    private int latest;

    public RevisionTree() {
        worked = new Table();
        kept = new Table[KEPT_REVISIONS];
        for (int i = 0; i < KEPT_REVISIONS; i++) {
            kept[i] = new Table();
        }
        revisionOfReader = new int[READERS];
        latest = 0;
    }

    public int put(int k, int value, int n) {
        if (n < 0 || n > GREATEST_SIZE) {
            return REFUSED;
        }
        return worked.enter(k, value, n);
    }

    public int some(int from, int step, int many, int value) {
        if (many < 1 || many > MOST_AT_ONCE) {
            return REFUSED;
        }
        int added = 0;
        for (int i = 0; i < many; i++) {
            if (worked.enter(from + i * step, value + i, sizeInRow(value, i)) == 1) {
                added++;
            }
        }
        return added;
    }

    public int remove(int k) {
        return worked.drop(k) ? worked.held : NONE;
    }

    public int commit(int cut) {
        if (cut >= 0) {
            worked.copyFrom(tableOfRevision(latest));
            return CUT;
        }
        latest++;
        tableOfRevision(latest).copyFrom(worked);
        return latest;
    }

    public int forget() {
        worked.copyFrom(tableOfRevision(latest));
        return worked.held;
    }

    public int open(int r) {
        if (r < 0 || r >= READERS) {
            return REFUSED;
        }
        revisionOfReader[r] = latest;
        return latest;
    }

    public long get(int r, int k) {
        int state = stateOfReader(r);
        if (state != READABLE) {
            return NO_INT + state;
        }
        Table table = tableOfReader(r);
        int place = table.placeOf(k);
        return table.hasAt(place, k) ? table.values[place] : NO_INT + NONE;
    }

    public long next(int r, int k) {
        int state = stateOfReader(r);
        if (state != READABLE) {
            return NO_INT + state;
        }
        Table table = tableOfReader(r);
        int place = table.placeAbove(k);
        return place < table.held ? table.keys[place] : NO_INT + NONE;
    }

    public int size(int r, int k) {
        int state = stateOfReader(r);
        if (state != READABLE) {
            return state;
        }
        Table table = tableOfReader(r);
        int place = table.placeOf(k);
        return table.hasAt(place, k) ? table.sizes[place] : NONE;
    }

    public int count(int r) {
        int state = stateOfReader(r);
        return state == READABLE ? tableOfReader(r).held : state;
    }

    public int digest(int r) {
        int state = stateOfReader(r);
        return state == READABLE ? tableOfReader(r).fold() : state;
    }

    /** The mask is the remainder 0 to 127 for sums below 0 too, since 128 divides 2^32. */
    private static int sizeInRow(int value, int i) {
        return i % 2 == 0 ? 0 : (value + 7 * i) & 127;
    }

    private int stateOfReader(int r) {
        if (r < -1 || r >= READERS) {
            return REFUSED;
        }
        if (r >= 0 && latest - revisionOfReader[r] >= KEPT_REVISIONS) {
            return GONE;
        }
        return READABLE;
    }

    /** Only for a reader whose state is READABLE: the revisions of others are written over. */
    private Table tableOfReader(int r) {
        return r < 0 ? worked : tableOfRevision(revisionOfReader[r]);
    }

    private Table tableOfRevision(int revision) {
        return kept[Math.floorMod(revision, KEPT_REVISIONS)];
    }

    /** KEYS by rising KEYS in the first places, with the VALUE and the SIZE at the same place. */
    private static final class Table {
        final int[] keys = new int[MOST_KEYS];
        final int[] values = new int[MOST_KEYS];
        final int[] sizes = new int[MOST_KEYS];
        int held = 0;

        /** The first place whose KEY is not below k; behind all KEYS if there is none. */
        int placeOf(int k) {
            int low = 0;
            int high = held;
            while (low < high) {
                int middle = (low + high) / 2;
                if (keys[middle] < k) {
                    low = middle + 1;
                } else {
                    high = middle;
                }
            }
            return low;
        }

        int placeAbove(int k) {
            int place = placeOf(k);
            return hasAt(place, k) ? place + 1 : place;
        }

        boolean hasAt(int place, int k) {
            return place < held && keys[place] == k;
        }

        /** 1 if the KEY was not there, 0 if it was, FULL if there is no room for it. */
        int enter(int k, int value, int n) {
            int place = placeOf(k);
            boolean isNew = !hasAt(place, k);
            if (isNew) {
                if (held >= MOST_KEYS) {
                    return FULL;
                }
                shift(place, place + 1);
                held++;
                keys[place] = k;
            }
            values[place] = value;
            sizes[place] = n;
            return isNew ? 1 : 0;
        }

        boolean drop(int k) {
            int place = placeOf(k);
            if (!hasAt(place, k)) {
                return false;
            }
            shift(place + 1, place);
            held--;
            return true;
        }

        /** All that stands at from and behind it goes to to and behind it. */
        private void shift(int from, int to) {
            int many = held - from;
            System.arraycopy(keys, from, keys, to, many);
            System.arraycopy(values, from, values, to, many);
            System.arraycopy(sizes, from, sizes, to, many);
        }

        void copyFrom(Table other) {
            System.arraycopy(other.keys, 0, keys, 0, other.held);
            System.arraycopy(other.values, 0, values, 0, other.held);
            System.arraycopy(other.sizes, 0, sizes, 0, other.held);
            held = other.held;
        }

        int fold() {
            int h = 0;
            for (int i = 0; i < held; i++) {
                h = h * 31 + keys[i];
                h = h * 31 + values[i] + sizes[i];
            }
            return h;
        }
    }
}
