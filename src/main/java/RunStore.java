import java.util.Arrays;
import java.util.NoSuchElementException;

/**
 * Keeps values under keys in memory and on a disk of blocks, in sorted runs that are never changed.
 *
 * <p>Each call looks at its exceptions in the order of its throws clause before it changes anything.
 */
public final class RunStore {
    public static final int NONE = -1;

    private static final int KEYS = 100;
    private static final int LEVELS = 3;
    private static final int BLOCKS = 40;
    private static final int ENTRIES_A_BLOCK = 4;
    private static final int MOST_RUNS = 12;
    private static final int MOST_IN_MEMORY = 8;
    private static final int MOST_RUNS_UNCOMPACTED = 3;
    private static final int GREATEST_LIMIT = 1000;
    private static final int LIST_WRITE = 1;

    private final Entries gathered;
    private final Disk disk;
    private boolean up;
    private int writesLeft;
    private int cursor;

    public RunStore() {
        gathered = new Entries();
        disk = new Disk();
        up = false;
        writesLeft = NONE;
        cursor = NONE;
    }

    public void format() throws IllegalStateException {
        spendWrites(LIST_WRITE);
        disk.makeAnew();
        comeUp();
    }

    public int recover() throws IllegalStateException {
        if (up) {
            throw new IllegalStateException("the store is up");
        }
        requireDisk();
        comeUp();
        return disk.countRuns();
    }

    public int put(int key, int value)
            throws IllegalArgumentException, IllegalStateException, UnsupportedOperationException {
        requireKey(key);
        requireUp();
        makePlaceInMemory(key);
        gathered.setValue(key, value);
        cursor = NONE;
        return gathered.count();
    }

    public boolean remove(int key)
            throws IllegalArgumentException, IllegalStateException, UnsupportedOperationException {
        requireKey(key);
        requireUp();
        boolean wasThere = isThere(key);
        makePlaceInMemory(key);
        gathered.setMark(key);
        cursor = NONE;
        return wasThere;
    }

    public int get(int key) throws IllegalArgumentException, IllegalStateException, NoSuchElementException {
        requireKey(key);
        requireUp();
        if (!isThere(key)) {
            throw new NoSuchElementException("the key is not there");
        }
        return valueOrZero(key);
    }

    public boolean has(int key) throws IllegalArgumentException, IllegalStateException {
        requireKey(key);
        requireUp();
        return isThere(key);
    }

    public int flush() throws IllegalStateException, UnsupportedOperationException {
        requireUp();
        int flushed = flushMemory();
        cursor = NONE;
        return flushed;
    }

    public int compact() throws IllegalStateException, UnsupportedOperationException {
        requireUp();
        int level = leastLevelToCompact();
        if (level != NONE) {
            mergeLevel(level);
        }
        cursor = NONE;
        return level;
    }

    public int merge(int level)
            throws IllegalArgumentException, IllegalStateException, UnsupportedOperationException {
        requireLevel(level);
        requireUp();
        int merged = mergeLevel(level);
        cursor = NONE;
        return merged;
    }

    public void limit(int n) throws IllegalArgumentException, IllegalStateException {
        if (n < NONE || n > GREATEST_LIMIT) {
            throw new IllegalArgumentException("a limit is -1 .. 1000");
        }
        requireDisk();
        writesLeft = n;
    }

    public int left() {
        return writesLeft;
    }

    public boolean seek(int key) throws IllegalArgumentException, IllegalStateException {
        requireKey(key);
        requireUp();
        cursor = leastKeyThere(key);
        return cursor != NONE;
    }

    public boolean next() throws IllegalStateException {
        requireUp();
        if (cursor == NONE) {
            throw new IllegalStateException("there is no cursor");
        }
        cursor = leastKeyThere(cursor + 1);
        return cursor != NONE;
    }

    public int key() {
        return cursor;
    }

    public int value() {
        return cursor == NONE ? 0 : valueOrZero(cursor);
    }

    public int size() throws IllegalStateException {
        requireUp();
        int keysThere = 0;
        for (int key = 0; key < KEYS; key++) {
            if (isThere(key)) {
                keysThere++;
            }
        }
        return keysThere;
    }

    public int memory() {
        return up ? gathered.count() : NONE;
    }

    public int runs(int level) throws IllegalArgumentException, IllegalStateException {
        requireLevel(level);
        requireUp();
        return disk.countRunsOf(level);
    }

    public int entries(int level, int i) throws IllegalStateException, NoSuchElementException {
        requireUp();
        if (!isLevel(level) || i < 0 || i >= disk.countRunsOf(level)) {
            throw new NoSuchElementException("there is no such run");
        }
        return disk.run(level, i).count();
    }

    public int room() throws IllegalStateException {
        requireUp();
        return disk.freeBlocks();
    }

    private static boolean isLevel(int level) {
        return level >= 0 && level < LEVELS;
    }

    private static void requireKey(int key) {
        if (key < 0 || key >= KEYS) {
            throw new IllegalArgumentException("a key is 0 .. 99");
        }
    }

    private static void requireLevel(int level) {
        if (!isLevel(level)) {
            throw new IllegalArgumentException("a level is 0 .. 2");
        }
    }

    private void requireUp() {
        if (!up) {
            throw new IllegalStateException("the store is down");
        }
    }

    private void requireDisk() {
        if (!disk.isMade()) {
            throw new IllegalStateException("the disk was never made");
        }
    }

    private void comeUp() {
        gathered.clear();
        cursor = NONE;
        up = true;
    }

    private void goDown() {
        gathered.clear();
        cursor = NONE;
        writesLeft = NONE;
        up = false;
    }

    /**
     * Takes all writes of one list at once: a limit that ends before the last of them takes the store down at
     * some write, and which one it was can't be told afterwards, since the disk is what the list before said.
     */
    private void spendWrites(int writes) {
        if (writesLeft == NONE) {
            return;
        }
        if (writesLeft < writes) {
            goDown();
            throw new IllegalStateException("the store went down");
        }
        writesLeft -= writes;
    }

    /** Looks for room first, since without room nothing is written, and so the limit is not looked at. */
    private void writeDraft(boolean placeForRun) {
        int blocks = disk.draft().blocks();
        if (!placeForRun || blocks > disk.freeBlocks()) {
            throw new UnsupportedOperationException("there is no room");
        }
        spendWrites(blocks + LIST_WRITE);
    }

    private void makePlaceInMemory(int key) {
        if (gathered.count() >= MOST_IN_MEMORY && !gathered.holds(key)) {
            flushMemory();
        }
    }

    private int flushMemory() {
        int flushed = gathered.count();
        if (flushed == 0) {
            return 0;
        }
        disk.draftFrom(gathered);
        writeDraft(disk.countRuns() < MOST_RUNS);
        disk.listDraftAsFlushed();
        gathered.clear();
        return flushed;
    }

    private int mergeLevel(int level) {
        if (disk.countRunsOf(level) == 0) {
            return 0;
        }
        disk.draftFromLevel(level);
        int merged = disk.draft().count();
        writeDraft(true);
        disk.listDraftAsMerged(level);
        return merged;
    }

    private int leastLevelToCompact() {
        for (int level = 0; level < LEVELS; level++) {
            if (disk.countRunsOf(level) > MOST_RUNS_UNCOMPACTED) {
                return level;
            }
        }
        return NONE;
    }

    private int leastKeyThere(int from) {
        for (int key = from; key < KEYS; key++) {
            if (isThere(key)) {
                return key;
            }
        }
        return NONE;
    }

    private boolean isThere(int key) {
        Entries newest = newestWith(key);
        return newest != null && newest.holdsValue(key);
    }

    private int valueOrZero(int key) {
        Entries newest = newestWith(key);
        return newest == null ? 0 : newest.valueAt(key);
    }

    private Entries newestWith(int key) {
        return gathered.holds(key) ? gathered : disk.newestRunWith(key);
    }

    /** Entries with different keys, of memory or of a run; a place for each key keeps them by rising keys. */
    private static final class Entries {
        private static final int NOTHING = 0;
        private static final int VALUE = 1;
        private static final int MARK = 2;

        private final int[] kinds;
        private final int[] values;
        private int count;

        Entries() {
            kinds = new int[KEYS];
            values = new int[KEYS];
            count = 0;
        }

        int count() {
            return count;
        }

        int blocks() {
            return (count + ENTRIES_A_BLOCK - 1) / ENTRIES_A_BLOCK;
        }

        boolean holds(int key) {
            return kinds[key] != NOTHING;
        }

        boolean holdsValue(int key) {
            return kinds[key] == VALUE;
        }

        int valueAt(int key) {
            return values[key];
        }

        void setValue(int key, int value) {
            setEntry(key, VALUE, value);
        }

        void setMark(int key) {
            setEntry(key, MARK, 0);
        }

        void clear() {
            Arrays.fill(kinds, NOTHING);
            count = 0;
        }

        void addOlder(Entries older) {
            for (int key = 0; key < KEYS; key++) {
                if (!holds(key) && older.holds(key)) {
                    setEntry(key, older.kinds[key], older.values[key]);
                }
            }
        }

        void leaveOutMarks() {
            for (int key = 0; key < KEYS; key++) {
                if (kinds[key] == MARK) {
                    kinds[key] = NOTHING;
                    count--;
                }
            }
        }

        private void setEntry(int key, int kind, int value) {
            if (!holds(key)) {
                count++;
            }
            kinds[key] = kind;
            values[key] = value;
        }
    }

    /** What the list says that was written last, and a draft of the run that is to be written next. */
    private static final class Disk {
        private static final int DRAFT = MOST_RUNS;

        /**
         * First the runs, level by level and the newest first, so from the newest of all to the oldest; behind
         * them what is free. The last place, one more than there can be runs, is the draft's.
         */
        private final Entries[] places;
        private final int[] runsOfLevel;
        private boolean made;

        Disk() {
            places = new Entries[MOST_RUNS + 1];
            for (int i = 0; i < places.length; i++) {
                places[i] = new Entries();
            }
            runsOfLevel = new int[LEVELS];
            made = false;
        }

        boolean isMade() {
            return made;
        }

        void makeAnew() {
            Arrays.fill(runsOfLevel, 0);
            made = true;
        }

        int countRunsOf(int level) {
            return runsOfLevel[level];
        }

        int countRuns() {
            return firstPlaceOf(LEVELS);
        }

        Entries run(int level, int i) {
            return places[firstPlaceOf(level) + i];
        }

        int freeBlocks() {
            int free = BLOCKS;
            int runCount = countRuns();
            for (int i = 0; i < runCount; i++) {
                free -= places[i].blocks();
            }
            return free;
        }

        /** The newest run with an entry of this key, or null. */
        Entries newestRunWith(int key) {
            int runCount = countRuns();
            for (int i = 0; i < runCount; i++) {
                if (places[i].holds(key)) {
                    return places[i];
                }
            }
            return null;
        }

        Entries draft() {
            return places[DRAFT];
        }

        void draftFrom(Entries source) {
            draft().clear();
            draft().addOlder(source);
        }

        void draftFromLevel(int level) {
            draft().clear();
            for (int i = 0; i < runsOfLevel[level]; i++) {
                draft().addOlder(run(level, i));
            }
            boolean greaterLevelHasRun = firstPlaceOf(level + 1) < countRuns();
            if (!greaterLevelHasRun) {
                draft().leaveOutMarks();
            }
        }

        void listDraftAsFlushed() {
            moveDraftTo(0);
            runsOfLevel[0]++;
        }

        void listDraftAsMerged(int level) {
            int gone = runsOfLevel[level];
            int place = firstPlaceOf(level);
            runsOfLevel[level] = 0;
            if (draft().count() > 0) {
                moveDraftTo(place);
                runsOfLevel[Math.min(level + 1, LEVELS - 1)]++;
                place++;
            }
            for (int i = 0; i < gone; i++) {
                moveToDraft(place);
            }
        }

        private int firstPlaceOf(int level) {
            int runsBefore = 0;
            for (int lesser = 0; lesser < level; lesser++) {
                runsBefore += runsOfLevel[lesser];
            }
            return runsBefore;
        }

        private void moveDraftTo(int place) {
            Entries moved = places[DRAFT];
            for (int i = DRAFT; i > place; i--) {
                places[i] = places[i - 1];
            }
            places[place] = moved;
        }

        private void moveToDraft(int place) {
            Entries moved = places[place];
            for (int i = place; i < DRAFT; i++) {
                places[i] = places[i + 1];
            }
            places[DRAFT] = moved;
        }
    }
}
