/**
 * Promises 4 to 7, 17 and 18: put, remove, get, has, size, memory. The sentences of a promise stand over the tests of
 * them.
 */
public final class KeysTest {
    private static final Due DUE = new Due("KeysTest");

    public static void main(String[] args) {
        promise4PutAnswersTheEntriesOfMemory();
        promise4PutFlushesFullMemoryBefore();
        promise4PutOfAKeyInMemoryFlushesNothing();
        promise4PutWithoutRoomLeavesTheKey();
        promise4PutThatThrowsLeavesTheKey();
        promise4PutRefusesWrongKeys();
        promise5RemoveMarksAndTellsWhetherItWasThere();
        promise5RemoveFlushesFullMemoryBefore();
        promise5RemoveWithoutRoomLeavesTheKey();
        promise5RemoveThatThrowsLeavesTheKey();
        promise5RemoveRefusesWrongKeys();
        promise6GetAnswersTheNewestValue();
        promise6GetThrowsForAKeyNotThere();
        promise7HasLooksAtTheNewestEntry();
        promise17SizeCountsKeysNotEntries();
        promise18MemoryCountsMarksToo();
        DUE.end();
    }

    // "A key gets a value, in memory." and "Answers how many entries memory has then."

    private static void promise4PutAnswersTheEntriesOfMemory() {
        RunStore store = Stores.formatted();
        DUE.is("put(0, 5)", 1, store.put(0, 5));
        DUE.is("put(99, -5)", 2, store.put(99, -5));
        DUE.is("put(0, 6) again", 2, store.put(0, 6));
        DUE.is("put(1, least)", 3, store.put(1, Integer.MIN_VALUE));
        DUE.is("put(2, greatest)", 4, store.put(2, Integer.MAX_VALUE));
        DUE.is("get(0)", 6, store.get(0));
        DUE.is("get(99)", -5, store.get(99));
        DUE.is("get(1)", Integer.MIN_VALUE, store.get(1));
        DUE.is("get(2)", Integer.MAX_VALUE, store.get(2));
        store.remove(0);
        DUE.is("put(0, 7) over a mark", 4, store.put(0, 7));
        DUE.is("get(0) over a mark", 7, store.get(0));
    }

    // "When memory has 8 entries, and none with this key (with it nothing is flushed), it is flushed before; a put that
    // throws leaves the key as it was."

    private static void promise4PutFlushesFullMemoryBefore() {
        RunStore store = Stores.formatted();
        Stores.putKeys(store, 0, 7);
        DUE.is("the eighth put", 8, store.put(7, 70));
        DUE.is("eight puts: runs(0)", 0, store.runs(0));
        DUE.is("the ninth put", 1, store.put(8, 80));
        DUE.is("nine puts: runs(0)", 1, store.runs(0));
        DUE.is("nine puts: entries(0, 0)", 8, store.entries(0, 0));
        DUE.is("nine puts: size()", 9, store.size());
    }

    private static void promise4PutOfAKeyInMemoryFlushesNothing() {
        RunStore store = Stores.formatted();
        Stores.putKeys(store, 0, 7);
        store.remove(40);
        DUE.is("put of a value's key in full memory", 8, store.put(3, 1));
        DUE.is("put of a mark's key in full memory", 8, store.put(40, 4));
        DUE.is("put in full memory: runs(0)", 0, store.runs(0));
    }

    private static void promise4PutWithoutRoomLeavesTheKey() {
        RunStore store = Stores.withTwelveRuns();
        Stores.putKeys(store, 50, 8);
        DUE.noRoom("put(5, 1) without room", () -> store.put(5, 1));
        DUE.is("no room: get(5)", 50, store.get(5));
        DUE.is("no room: memory()", 8, store.memory());
        DUE.is("put(50, 1), in memory, without room", 8, store.put(50, 1));
        RunStore small = Stores.withOneBlockFree();
        DUE.noRoom("put(99, 1) with one block free", () -> small.put(99, 1));
        DUE.is("one block free: has(99)", false, small.has(99));
        DUE.is("one block free: room()", 1, small.room());
    }

    private static void promise4PutThatThrowsLeavesTheKey() {
        RunStore marked = Stores.withTwelveRuns();
        marked.merge(0);
        for (int run = 0; run < 11; run++) {
            Stores.flushMarks(marked, 5, 1);
        }
        Stores.putKeys(marked, 50, 8);
        DUE.noRoom("put(5, 1), marked, without room", () -> marked.put(5, 1));
        DUE.is("no room: has(5)", false, marked.has(5));
        RunStore down = Stores.formatted();
        Stores.flushKeys(down, 5, 1);
        Stores.putKeys(down, 50, 8);
        down.limit(2);
        DUE.illegalState("put(5, 1) that goes down", () -> down.put(5, 1));
        down.recover();
        DUE.is("put went down: get(5)", 50, down.get(5));
        DUE.is("put went down: has(50)", false, down.has(50));
    }

    private static void promise4PutRefusesWrongKeys() {
        RunStore store = Stores.formatted();
        store.put(1, 1);
        store.seek(0);
        DUE.illegalArgument("put(-1, 1)", () -> store.put(-1, 1));
        DUE.illegalArgument("put(100, 1)", () -> store.put(100, 1));
        DUE.illegalArgument("put(least, 1)", () -> store.put(Integer.MIN_VALUE, 1));
        DUE.illegalArgument("put(greatest, 1)", () -> store.put(Integer.MAX_VALUE, 1));
        DUE.is("put refused: memory()", 1, store.memory());
        DUE.is("put refused: key()", 1, store.key());
    }

    // "A key gets a mark, in memory, likewise (whether it is there or not)." and "Answers whether it was there
    // (before)."

    private static void promise5RemoveMarksAndTellsWhetherItWasThere() {
        RunStore store = Stores.formatted();
        Stores.flushKeys(store, 0, 3);
        DUE.is("remove of a key in a run", true, store.remove(1));
        DUE.is("remove of a marked key", false, store.remove(1));
        DUE.is("remove of a key never put", false, store.remove(60));
        DUE.is("remove: memory()", 2, store.memory());
        store.put(61, 6);
        DUE.is("remove of a key in memory", true, store.remove(61));
        DUE.is("remove: memory() again", 3, store.memory());
        DUE.is("removed: has(1)", false, store.has(1));
        store.flush();
        DUE.is("removed and flushed: has(1)", false, store.has(1));
        DUE.is("remove of a key marked in a run", false, store.remove(1));
        DUE.is("removed: size()", 2, store.size());
        DUE.is("remove(99)", false, store.remove(99));
        DUE.is("remove(0)", true, store.remove(0));
    }

    private static void promise5RemoveFlushesFullMemoryBefore() {
        RunStore store = Stores.formatted();
        Stores.putKeys(store, 0, 8);
        DUE.is("remove(3) in full memory", true, store.remove(3));
        DUE.is("remove(3) in full memory: runs(0)", 0, store.runs(0));
        DUE.is("remove(70) from full memory", false, store.remove(70));
        DUE.is("remove(70): memory()", 1, store.memory());
        DUE.is("remove(70): runs(0)", 1, store.runs(0));
        Stores.putKeys(store, 71, 7);
        DUE.is("remove(5), in the run, from full memory", true, store.remove(5));
        DUE.is("remove(5): runs(0)", 2, store.runs(0));
        DUE.is("remove(5): has(5)", false, store.has(5));
    }

    private static void promise5RemoveWithoutRoomLeavesTheKey() {
        RunStore store = Stores.withTwelveRuns();
        Stores.putKeys(store, 50, 8);
        DUE.noRoom("remove(5) without room", () -> store.remove(5));
        DUE.noRoom("remove(99), not there, without room", () -> store.remove(99));
        DUE.is("no room: has(5)", true, store.has(5));
        DUE.is("no room: memory()", 8, store.memory());
        DUE.is("remove(50), in memory, without room", true, store.remove(50));
    }

    private static void promise5RemoveThatThrowsLeavesTheKey() {
        RunStore store = Stores.formatted();
        Stores.flushKeys(store, 5, 1);
        Stores.putKeys(store, 50, 8);
        store.limit(2);
        DUE.illegalState("remove(5) that goes down", () -> store.remove(5));
        store.recover();
        DUE.is("remove went down: get(5)", 50, store.get(5));
        DUE.is("remove went down: memory()", 0, store.memory());
        DUE.is("remove(5) after that", true, store.remove(5));
    }

    private static void promise5RemoveRefusesWrongKeys() {
        RunStore store = Stores.formatted();
        DUE.illegalArgument("remove(-1)", () -> store.remove(-1));
        DUE.illegalArgument("remove(100)", () -> store.remove(100));
        DUE.illegalArgument("remove(least)", () -> store.remove(Integer.MIN_VALUE));
        DUE.is("remove refused: memory()", 0, store.memory());
    }

    // "The value of a key."

    private static void promise6GetAnswersTheNewestValue() {
        RunStore store = Stores.formatted();
        store.put(5, 1);
        store.flush();
        store.merge(0);
        store.merge(1);
        DUE.is("get(5) of level 2", 1, store.get(5));
        store.put(5, 2);
        store.flush();
        store.merge(0);
        DUE.is("get(5) of level 1", 2, store.get(5));
        store.put(5, 3);
        store.flush();
        DUE.is("get(5) of level 0", 3, store.get(5));
        store.put(5, 4);
        store.flush();
        DUE.is("get(5) of the newest run of level 0", 4, store.get(5));
        store.put(5, 0);
        DUE.is("get(5) of memory", 0, store.get(5));
    }

    // "NoSuchElementException when it is not there."

    private static void promise6GetThrowsForAKeyNotThere() {
        RunStore store = Stores.formatted();
        Stores.putKeys(store, 0, 2);
        store.remove(1);
        DUE.noSuch("get(1), marked", () -> store.get(1));
        DUE.noSuch("get(2), never put", () -> store.get(2));
        DUE.noSuch("get(99), never put", () -> store.get(99));
        store.flush();
        DUE.noSuch("get(1), marked in a run", () -> store.get(1));
        DUE.illegalArgument("get(-1)", () -> store.get(-1));
        DUE.illegalArgument("get(100)", () -> store.get(100));
    }

    // "Whether a key is there."

    private static void promise7HasLooksAtTheNewestEntry() {
        RunStore store = Stores.formatted();
        DUE.is("has(0) of an empty store", false, store.has(0));
        store.put(0, 0);
        DUE.is("has(0) with the value 0", true, store.has(0));
        store.flush();
        store.remove(0);
        DUE.is("has(0) with a mark in memory", false, store.has(0));
        store.flush();
        DUE.is("has(0) with a mark in a run", false, store.has(0));
        store.put(0, -1);
        DUE.is("has(0) put again", true, store.has(0));
        DUE.is("has(99)", false, store.has(99));
        DUE.illegalArgument("has(-1)", () -> store.has(-1));
        DUE.illegalArgument("has(100)", () -> store.has(100));
    }

    // "How many keys are there."

    private static void promise17SizeCountsKeysNotEntries() {
        RunStore store = Stores.formatted();
        DUE.is("size() of an empty store", 0, store.size());
        Stores.flushKeys(store, 0, 4);
        Stores.flushKeys(store, 2, 4);
        store.put(99, 9);
        store.put(5, 1);
        store.remove(0);
        store.remove(50);
        DUE.is("size()", 6, store.size());
        RunStore full = Stores.formatted();
        Stores.putKeys(full, 0, 50);
        full.merge(0);
        Stores.putKeys(full, 50, 50);
        DUE.is("size() with all keys", 100, full.size());
    }

    // "How many entries memory has; NONE when the store is down."

    private static void promise18MemoryCountsMarksToo() {
        RunStore store = Stores.formatted();
        DUE.is("memory() at first", 0, store.memory());
        store.put(1, 1);
        store.remove(2);
        store.remove(1);
        DUE.is("memory() with marks", 2, store.memory());
        store.flush();
        DUE.is("memory() after flush", 0, store.memory());
        Stores.putKeys(store, 0, 8);
        DUE.is("memory() when full", 8, store.memory());
        store.put(8, 8);
        DUE.is("memory() after a put that flushed", 1, store.memory());
        Stores.takeDown(store);
        DUE.is("memory() when down", RunStore.NONE, store.memory());
        DUE.is("memory() of a new store", RunStore.NONE, new RunStore().memory());
    }
}
