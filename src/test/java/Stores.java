/** Stores in states that several tests begin with. */
final class Stores {
    private Stores() {
    }

    static RunStore formatted() {
        RunStore store = new RunStore();
        store.format();
        return store;
    }

    /** A new store that went down after its disk was made, with no runs. */
    static RunStore downWithDisk() {
        RunStore store = formatted();
        takeDown(store);
        return store;
    }

    static void takeDown(RunStore store) {
        store.limit(0);
        try {
            store.format();
        } catch (IllegalStateException wentDown) {
            return;
        }
        throw new AssertionError("the store did not go down");
    }

    /** Puts so many keys from this one on, each with the value key * 10. */
    static void putKeys(RunStore store, int from, int count) {
        for (int key = from; key < from + count; key++) {
            store.put(key, key * 10);
        }
    }

    static void flushKeys(RunStore store, int from, int count) {
        putKeys(store, from, count);
        store.flush();
    }

    /** Twelve runs of one entry each on level 0, of the keys 0 .. 11. */
    static RunStore withTwelveRuns() {
        RunStore store = formatted();
        for (int key = 0; key < 12; key++) {
            flushKeys(store, key, 1);
        }
        return store;
    }

    /** One run on level 1, of the keys 0 .. 79: it takes 20 blocks, and 20 are free. */
    static RunStore withTwentyBlocksFree() {
        RunStore store = formatted();
        for (int from = 0; from < 80; from += 8) {
            flushKeys(store, from, 8);
        }
        store.merge(0);
        return store;
    }

    /** Twelve runs, four on each level, of one entry each: keys 0 .. 3 on level 2, 4 .. 7 on 1, 8 .. 11 on 0. */
    static RunStore withFourRunsOnEachLevel() {
        RunStore store = formatted();
        for (int key = 0; key < 12; key++) {
            flushKeys(store, key, 1);
            if (key < 8) {
                store.merge(0);
            }
            if (key < 4) {
                store.merge(1);
            }
        }
        return store;
    }

    /**
     * Twelve runs that take all 40 blocks: on level 2 the keys 0 .. 7 and, newer, their marks, which a merge makes
     * nothing of; on level 1 one run of the keys 8 .. 79, on level 0 nine runs of the same.
     */
    static RunStore withoutFreeBlock() {
        RunStore store = formatted();
        flushKeys(store, 0, 8);
        pushDown(store);
        for (int key = 0; key < 8; key++) {
            store.remove(key);
        }
        store.flush();
        pushDown(store);
        for (int round = 0; round < 2; round++) {
            for (int from = 8; from < 80; from += 8) {
                flushKeys(store, from, 8);
            }
            if (round == 0) {
                store.merge(0);
            }
        }
        return store;
    }

    /** Merges levels 0 and 1, so that what stood on them is the newest run of level 2. */
    static void pushDown(RunStore store) {
        store.merge(0);
        store.merge(1);
    }

    /** Flushes marks of so many keys from this one on. */
    static void flushMarks(RunStore store, int from, int count) {
        for (int key = from; key < from + count; key++) {
            store.remove(key);
        }
        store.flush();
    }

    /** All that can be seen of a store, in some 120 calls that change nothing. */
    static String told(RunStore store) {
        StringBuilder text = new StringBuilder("left " + store.left());
        text.append(", memory ").append(store.memory());
        text.append(", cursor ").append(store.key()).append(' ').append(store.value());
        return store.memory() == RunStore.NONE ? text.toString() : text + toldOfKeysAndRuns(store);
    }

    /** All that can be seen of a store's disk, when it is down: it is brought up for this. */
    static String toldOfDisk(RunStore store) {
        store.recover();
        return told(store);
    }

    private static String toldOfKeysAndRuns(RunStore store) {
        StringBuilder text = new StringBuilder(", size " + store.size() + ", room " + store.room());
        for (int level = 0; level < 3; level++) {
            text.append(", level ").append(level).append(':');
            int runs = store.runs(level);
            for (int i = 0; i < runs; i++) {
                text.append(' ').append(store.entries(level, i));
            }
        }
        text.append(", keys:");
        for (int key = 0; key < 100; key++) {
            try {
                text.append(' ').append(key).append('=').append(store.get(key));
            } catch (java.util.NoSuchElementException notThere) {
                text.append(" -");
            }
        }
        return text.toString();
    }

    /** Eleven runs that leave 1 block free, and 8 entries in memory, of the keys 80 .. 87. */
    static RunStore withOneBlockFree() {
        RunStore store = withTwentyBlocksFree();
        for (int i = 0; i < 9; i++) {
            flushKeys(store, 80, 8);
        }
        flushKeys(store, 80, 1);
        putKeys(store, 80, 8);
        return store;
    }
}
