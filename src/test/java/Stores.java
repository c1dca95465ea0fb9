/** Stores in states that several tests begin with. */
final class Stores {
    private Stores() {
    }

    static RunStore formatted() {
        RunStore store = new RunStore();
        store.format();
        return store;
    }

    /** A new store that went down after its disk was made, with no runs. */
    static RunStore downWithDisk() {
        RunStore store = formatted();
        takeDown(store);
        return store;
    }

    static void takeDown(RunStore store) {
        store.limit(0);
        try {
            store.format();
        } catch (IllegalStateException wentDown) {
            return;
        }
        throw new AssertionError("the store did not go down");
    }

    /** Puts so many keys from this one on, each with the value key * 10. */
    static void putKeys(RunStore store, int from, int count) {
        for (int key = from; key < from + count; key++) {
            store.put(key, key * 10);
        }
    }

    static void flushKeys(RunStore store, int from, int count) {
        putKeys(store, from, count);
        store.flush();
    }

    /** Twelve runs of one entry each on level 0, of the keys 0 .. 11. */
    static RunStore withTwelveRuns() {
        RunStore store = formatted();
        for (int key = 0; key < 12; key++) {
            flushKeys(store, key, 1);
        }
        return store;
    }

    /** One run on level 1, of the keys 0 .. 79: it takes 20 blocks, and 20 are free. */
    static RunStore withTwentyBlocksFree() {
        RunStore store = formatted();
        for (int from = 0; from < 80; from += 8) {
            flushKeys(store, from, 8);
        }
        store.merge(0);
        return store;
    }

    /** Eleven runs that leave 1 block free, and 8 entries in memory, of the keys 80 .. 87. */
    static RunStore withOneBlockFree() {
        RunStore store = withTwentyBlocksFree();
        for (int i = 0; i < 9; i++) {
            flushKeys(store, 80, 8);
        }
        flushKeys(store, 80, 1);
        putKeys(store, 80, 8);
        return store;
    }
}
