/**
 * Promises 13 to 16: seek, next, key, value; and when the cursor is gone. The sentences of a promise stand over the
 * tests of them.
 */
public final class CursorTest {
    private static final Due DUE = new Due("CursorTest");

    public static void main(String[] args) {
        promise13SeekGoesToTheLeastKeyFromThereOn();
        promise13SeekWithoutKeyHasNoCursor();
        promise13SeekRefusesWrongKeys();
        promise14NextGoesThroughAllKeys();
        promise14NextGoesToTheKeyBeside();
        promise14NextWithoutCursorThrows();
        promise15KeyAndPromise16ValueWithoutCursor();
        promise15KeyAndPromise16ValueOfADownStore();
        promise16ValueIsTheNewest();
        cursorIsGoneAfterCallsThatChange();
        cursorIsGoneThoughNothingHappens();
        cursorStaysAfterCallsThatLook();
        cursorStaysAfterCallsThatThrow();
        cursorIsGoneWhenTheStoreGoesDown();
        DUE.end();
    }

    /** Keys 3 (level 1), 5 (level 0), 7 (memory) and 99 (level 0) are there; 4 and 6 are marked. */
    private static RunStore withKeysEverywhere() {
        RunStore store = Stores.formatted();
        store.put(3, 33);
        store.put(4, 44);
        store.put(6, 66);
        store.flush();
        store.merge(0);
        store.put(5, 55);
        store.put(99, -9);
        store.remove(4);
        store.flush();
        store.put(7, 77);
        store.remove(6);
        return store;
    }

    // "The CURSOR goes to the least key from this one on that is there; false when there is none (there is no cursor
    // then)."

    private static void promise13SeekGoesToTheLeastKeyFromThereOn() {
        RunStore store = withKeysEverywhere();
        int[] from = {0, 3, 4, 5, 6, 7, 8, 99};
        int[] found = {3, 3, 5, 5, 7, 7, 99, 99};
        for (int i = 0; i < from.length; i++) {
            DUE.is("seek(" + from[i] + ")", true, store.seek(from[i]));
            DUE.is("seek(" + from[i] + "): key()", found[i], store.key());
        }
    }

    private static void promise13SeekWithoutKeyHasNoCursor() {
        RunStore store = Stores.formatted();
        DUE.is("seek(0) of an empty store", false, store.seek(0));
        store.put(5, 1);
        store.seek(5);
        DUE.is("seek(6) behind the last key", false, store.seek(6));
        DUE.is("seek(6): key()", RunStore.NONE, store.key());
        DUE.is("seek(6): value()", 0, store.value());
        store.remove(5);
        DUE.is("seek(0) with a mark alone", false, store.seek(0));
    }

    private static void promise13SeekRefusesWrongKeys() {
        RunStore store = Stores.formatted();
        store.put(5, 1);
        store.seek(5);
        DUE.illegalArgument("seek(-1)", () -> store.seek(-1));
        DUE.illegalArgument("seek(100)", () -> store.seek(100));
        DUE.illegalArgument("seek(least)", () -> store.seek(Integer.MIN_VALUE));
        DUE.is("seek refused: key()", 5, store.key());
    }

    // "The cursor goes to the next key that is there; false when there is none (there is no cursor then; a call that
    // throws leaves it)." and "IllegalStateException also when there is no cursor."

    private static void promise14NextGoesThroughAllKeys() {
        RunStore store = withKeysEverywhere();
        store.seek(0);
        int[] keys = {5, 7, 99};
        int[] values = {55, 77, -9};
        for (int i = 0; i < keys.length; i++) {
            DUE.is("next() to " + keys[i], true, store.next());
            DUE.is("next(): key()", keys[i], store.key());
            DUE.is("next(): value()", values[i], store.value());
        }
        DUE.is("next() at the end", false, store.next());
        DUE.is("next() at the end: key()", RunStore.NONE, store.key());
    }

    private static void promise14NextGoesToTheKeyBeside() {
        RunStore store = Stores.formatted();
        Stores.flushKeys(store, 96, 4);
        store.seek(0);
        for (int key = 97; key <= 99; key++) {
            DUE.is("next() to the key beside", true, store.next());
            DUE.is("next() to the key beside: key()", key, store.key());
        }
        DUE.is("next() at key 99", false, store.next());
    }

    private static void promise14NextWithoutCursorThrows() {
        RunStore store = withKeysEverywhere();
        DUE.illegalState("next() without cursor", store::next);
        store.seek(8);
        store.next();
        DUE.illegalState("next() behind the end", store::next);
        DUE.is("next() behind the end: memory()", 2, store.memory());
        DUE.is("next() behind the end: key()", RunStore.NONE, store.key());
        DUE.is("seek(99) after that", true, store.seek(99));
        DUE.is("next() at the last key", false, store.next());
        DUE.is("next() at the last key: value()", 0, store.value());
        store.remove(99);
        DUE.is("seek(99) of a removed key", false, store.seek(99));
        DUE.illegalState("next() after a seek that found none", store::next);
    }

    // "The cursor's key; NONE when there is no cursor (so when the store is down)." and "The value of the cursor's key;
    // 0 when there is no cursor."

    private static void promise15KeyAndPromise16ValueWithoutCursor() {
        RunStore store = withKeysEverywhere();
        DUE.is("key() without cursor", RunStore.NONE, store.key());
        DUE.is("value() without cursor", 0, store.value());
        store.put(0, 5);
        store.seek(0);
        DUE.is("key() at 0", 0, store.key());
        DUE.is("value() at 0", 5, store.value());
    }

    private static void promise15KeyAndPromise16ValueOfADownStore() {
        RunStore fresh = new RunStore();
        DUE.is("new: key()", RunStore.NONE, fresh.key());
        DUE.is("new: value()", 0, fresh.value());
        RunStore store = withKeysEverywhere();
        store.seek(99);
        DUE.is("seek(99): value()", -9, store.value());
        Stores.takeDown(store);
        DUE.is("down: key()", RunStore.NONE, store.key());
        DUE.is("down: value()", 0, store.value());
    }

    private static void promise16ValueIsTheNewest() {
        RunStore store = Stores.formatted();
        for (int value = 1; value <= 3; value++) {
            store.put(5, value);
            store.seek(5);
            DUE.is("value() in memory", value, store.value());
            store.flush();
            store.seek(5);
            DUE.is("value() in a run", value, store.value());
        }
    }

    private static void cursorIsGoneAfterCallsThatChange() {
        RunStore store = withKeysEverywhere();
        lookThatCursorIsGone("put(50, 1)", store, () -> store.put(50, 1));
        lookThatCursorIsGone("remove(50)", store, () -> store.remove(50));
        lookThatCursorIsGone("flush()", store, store::flush);
        lookThatCursorIsGone("merge(0)", store, () -> store.merge(0));
        for (int i = 0; i < 4; i++) {
            Stores.flushKeys(store, i, 1);
        }
        lookThatCursorIsGone("compact()", store, store::compact);
        lookThatCursorIsGone("format()", store, store::format);
        Stores.takeDown(store);
        store.recover();
        DUE.is("recover(): key()", RunStore.NONE, store.key());
    }

    private static void cursorIsGoneThoughNothingHappens() {
        RunStore store = Stores.formatted();
        Stores.flushKeys(store, 5, 1);
        lookThatCursorIsGone("flush() of nothing", store, store::flush);
        lookThatCursorIsGone("compact() of nothing", store, store::compact);
        lookThatCursorIsGone("merge(2) of nothing", store, () -> store.merge(2));
        lookThatCursorIsGone("remove(60), not there", store, () -> store.remove(60));
    }

    private static void cursorStaysAfterCallsThatLook() {
        RunStore store = withKeysEverywhere();
        store.seek(4);
        store.get(7);
        store.has(6);
        store.size();
        store.memory();
        store.runs(0);
        store.entries(0, 0);
        store.room();
        store.left();
        store.limit(5);
        DUE.is("looked: key()", 5, store.key());
        DUE.is("looked: value()", 55, store.value());
    }

    private static void cursorStaysAfterCallsThatThrow() {
        RunStore store = Stores.withTwelveRuns();
        Stores.putKeys(store, 50, 8);
        store.seek(11);
        DUE.noRoom("put(70, 1)", () -> store.put(70, 1));
        DUE.noRoom("remove(70)", () -> store.remove(70));
        DUE.noRoom("flush()", store::flush);
        DUE.illegalArgument("put(100, 1)", () -> store.put(100, 1));
        DUE.illegalArgument("remove(100)", () -> store.remove(100));
        DUE.illegalArgument("merge(3)", () -> store.merge(3));
        DUE.illegalArgument("seek(100)", () -> store.seek(100));
        DUE.illegalState("recover()", store::recover);
        DUE.noSuch("get(70)", () -> store.get(70));
        DUE.is("calls threw: key()", 11, store.key());
        DUE.is("calls threw: value()", 110, store.value());
        DUE.is("calls threw: next()", true, store.next());
        DUE.is("calls threw: key() then", 50, store.key());
    }

    private static void cursorIsGoneWhenTheStoreGoesDown() {
        RunStore store = withKeysEverywhere();
        store.seek(0);
        store.limit(0);
        DUE.illegalState("flush() with limit 0", store::flush);
        DUE.is("went down: key()", RunStore.NONE, store.key());
        DUE.is("went down: value()", 0, store.value());
        store.recover();
        DUE.illegalState("next() after recover", store::next);
    }

    private static void lookThatCursorIsGone(String call, RunStore store, Due.Call changing) {
        if (!store.seek(0)) {
            throw new AssertionError("no key is there before " + call);
        }
        changing.run();
        DUE.is(call + ": key()", RunStore.NONE, store.key());
        DUE.is(call + ": value()", 0, store.value());
    }
}
