import java.util.function.Consumer;
import java.util.function.Supplier;

/**
 * The document's section 'Terms', but for writing: each sentence that names an edge stands over the tests of it.
 * Those on writes, the limit, room, flushing and merging are in WritesTest.
 */
public final class TermsTest {
    private static final Due DUE = new Due("TermsTest");

    private static final int[] KEYS_OUTSIDE = {-1, 100, -100, 101, 256, Integer.MIN_VALUE, Integer.MAX_VALUE};
    private static final int[] LEVELS_OUTSIDE = {-1, 3, -3, 4, 256, Integer.MIN_VALUE, Integer.MAX_VALUE};

    public static void main(String[] args) {
        keysFrom0To99AreTaken();
        keysOutsideAreRefused();
        valuesAreAllInts();
        aMarkIsAnEntry();
        aRunHasOneEntryOrMore();
        aRunHasDifferentKeys();
        aRunIsByRisingKeys();
        aBlockIsTakenForEachFourEntries();
        allFortyBlocksAreForRuns();
        theListHasABlockOfItsOwn();
        levelsAre0To2();
        runsOfALevelStandTheNewestFirst();
        twelveRunsAreTheMost();
        twelveRunsOnThreeLevelsAreTheMost();
        memoryHasAtMostEightEntries();
        memoryHasDifferentKeys();
        lesserLevelsAreNewer();
        theNewestEntryDecides();
        theCursorIsGoneWhenTheStoreGoesDown();
        theCursorIsGoneAfterEachCallThatDoesNotThrow();
        theCursorIsGoneAlsoIfNothingHappens();
        theCursorStaysAfterOtherCalls();
        aCallThatThrowsChangesNothing();
        aCallThatThrowsLeavesADownStoreDown();
        wrongArgumentsAreSeenBeforeADownStore();
        wrongArgumentsAreSeenBeforeNoRoom();
        wrongArgumentsAreSeenBeforeALimitOf0();
        aDownStoreIsSeenBeforeWhatIsNotThere();
        atFirstTheStoreIsDown();
        noRoomIsToldByEachCallThatWritesARun();
        wrongArgumentsAreToldByEachCall();
        DUE.end();
    }

    // "KEYS are 0 .. 99, VALUES ints."

    private static void keysFrom0To99AreTaken() {
        RunStore store = Stores.formatted();
        for (int key = 0; key <= 99; key++) {
            DUE.is("put(" + key + ")", key % 8 + 1, store.put(key, key + 1000));
            DUE.is("has(" + key + ")", true, store.has(key));
            DUE.is("get(" + key + ")", key + 1000, store.get(key));
        }
        DUE.is("all keys put: size()", 100, store.size());
        DUE.is("seek(0)", true, store.seek(0));
        DUE.is("seek(0): key()", 0, store.key());
        DUE.is("seek(99)", true, store.seek(99));
        DUE.is("seek(99): key()", 99, store.key());
        DUE.is("remove(99)", true, store.remove(99));
        DUE.is("remove(0)", true, store.remove(0));
        DUE.is("the first and the last removed: size()", 98, store.size());
    }

    private static void keysOutsideAreRefused() {
        for (int key : KEYS_OUTSIDE) {
            RunStore store = Stores.formatted();
            Stores.flushKeys(store, 0, 1);
            Stores.putKeys(store, 98, 2);
            store.seek(99);
            DUE.refusesUnchanged("calls with key " + key, IllegalArgumentException.class, store, () -> {
                DUE.illegalArgument("put(" + key + ", 1)", () -> store.put(key, 1));
                DUE.illegalArgument("remove(" + key + ")", () -> store.remove(key));
                DUE.illegalArgument("get(" + key + ")", () -> store.get(key));
                DUE.illegalArgument("has(" + key + ")", () -> store.has(key));
                store.seek(key);
            });
        }
    }

    private static void valuesAreAllInts() {
        int[] values = {Integer.MIN_VALUE, -1000000007, -1, 0, 1, 65536, Integer.MAX_VALUE};
        RunStore store = Stores.formatted();
        for (int key = 0; key < values.length; key++) {
            store.put(key, values[key]);
        }
        lookAtValues("in memory", store, values);
        store.flush();
        lookAtValues("on level 0", store, values);
        store.merge(0);
        lookAtValues("on level 1", store, values);
        store.merge(1);
        lookAtValues("on level 2", store, values);
        Stores.takeDown(store);
        store.recover();
        lookAtValues("recovered", store, values);
    }

    private static void lookAtValues(String where, RunStore store, int[] values) {
        for (int key = 0; key < values.length; key++) {
            DUE.is("get(" + key + ") " + where, values[key], store.get(key));
            store.seek(key);
            DUE.is("value() at " + key + " " + where, values[key], store.value());
        }
    }

    // "An ENTRY is a key with a value, or with a MARK that it was removed."

    private static void aMarkIsAnEntry() {
        RunStore store = Stores.formatted();
        store.remove(0);
        DUE.is("a mark alone: memory()", 1, store.memory());
        DUE.is("a mark alone: size()", 0, store.size());
        DUE.is("a mark alone: flush()", 1, store.flush());
        DUE.is("a mark alone: entries(0, 0)", 1, store.entries(0, 0));
        DUE.is("a mark alone: room()", 39, store.room());
        for (int key = 0; key < 8; key++) {
            store.remove(key);
        }
        DUE.is("8 marks: memory()", 8, store.memory());
        DUE.is("put behind 8 marks", 1, store.put(8, 8));
        DUE.is("8 marks: entries(0, 0)", 8, store.entries(0, 0));
        DUE.is("8 marks: room()", 37, store.room());
    }

    // "A RUN is one or more entries with different keys, by rising keys."

    private static void aRunHasOneEntryOrMore() {
        RunStore store = Stores.formatted();
        store.flush();
        DUE.is("no entries: runs(0)", 0, store.runs(0));
        store.put(0, 1);
        store.flush();
        DUE.is("one entry: runs(0)", 1, store.runs(0));
        DUE.is("one entry: entries(0, 0)", 1, store.entries(0, 0));
    }

    private static void aRunHasDifferentKeys() {
        RunStore store = Stores.formatted();
        for (int i = 0; i < 20; i++) {
            DUE.is("put of one key " + (i + 1) + " times", 1, store.put(5, i));
            store.remove(5);
        }
        DUE.is("one key many times: flush()", 1, store.flush());
        store.put(5, 50);
        store.put(6, 60);
        store.flush();
        store.put(6, 61);
        store.flush();
        DUE.is("two keys in three runs: merge(0)", 2, store.merge(0));
        DUE.is("two keys in three runs: get(6)", 61, store.get(6));
    }

    private static void aRunIsByRisingKeys() {
        RunStore store = Stores.formatted();
        for (int key : new int[] {99, 50, 49, 0, 7, 8, 98, 1}) {
            store.put(key, key);
        }
        store.flush();
        int[] rising = {0, 1, 7, 8, 49, 50, 98, 99};
        store.seek(0);
        for (int i = 0; i < rising.length; i++) {
            DUE.is("key " + i + " of the run", rising[i], store.key());
            DUE.is("next() at key " + i + " of the run", i < rising.length - 1, store.next());
        }
    }

    // "It takes one BLOCK for each 4 entries (the last one perhaps not full)."

    private static void aBlockIsTakenForEachFourEntries() {
        int[] counts = {1, 2, 3, 4, 5, 6, 7, 8, 9, 11, 12, 13, 16, 17, 76, 77, 79, 80};
        int[] blocks = {1, 1, 1, 1, 2, 2, 2, 2, 3, 3, 3, 4, 4, 5, 19, 20, 20, 20};
        for (int i = 0; i < counts.length; i++) {
            RunStore store = Stores.formatted();
            Stores.flushKeys(store, 0, counts[i]);
            DUE.is("merge(0) to a run of " + counts[i], counts[i], store.merge(0));
            DUE.is("a run of " + counts[i] + ": room()", 40 - blocks[i], store.room());
        }
        for (int count = 1; count <= 8; count++) {
            RunStore store = Stores.formatted();
            Stores.flushKeys(store, 0, count);
            DUE.is("a flush of " + count + ": room()", count <= 4 ? 39 : 38, store.room());
        }
    }

    // "There are 40 blocks for runs, and one for the LIST of all runs."

    private static void allFortyBlocksAreForRuns() {
        RunStore store = Stores.formatted();
        DUE.is("no runs: room()", 40, store.room());
        RunStore full = Stores.withoutFreeBlock();
        DUE.is("all blocks taken: room()", 0, full.room());
        DUE.is("all blocks taken: runs", 12, full.runs(0) + full.runs(1) + full.runs(2));
        DUE.is("all blocks taken: size()", 72, full.size());
        for (int key = 8; key < 80; key++) {
            DUE.is("all blocks taken: get(" + key + ")", key * 10, full.get(key));
        }
    }

    private static void theListHasABlockOfItsOwn() {
        RunStore store = Stores.withoutFreeBlock();
        store.limit(1);
        DUE.is("merge(2) to nothing without a free block", 0, store.merge(2));
        DUE.is("the list alone: left()", 0, store.left());
        DUE.is("the list alone: runs(2)", 0, store.runs(2));
        DUE.is("the list alone: room()", 4, store.room());
        RunStore other = Stores.withoutFreeBlock();
        other.format();
        DUE.is("format without a free block: room()", 40, other.room());
    }

    // "The DISK has LEVELS 0, 1, 2, each a row of runs, the newest first; there are at most 12 runs in all."

    private static void levelsAre0To2() {
        RunStore store = Stores.withFourRunsOnEachLevel();
        for (int level = 0; level <= 2; level++) {
            DUE.is("runs(" + level + ")", 4, store.runs(level));
            DUE.is("entries(" + level + ", 3)", 1, store.entries(level, 3));
        }
        for (int level : LEVELS_OUTSIDE) {
            DUE.illegalArgument("runs(" + level + ")", () -> store.runs(level));
            DUE.illegalArgument("merge(" + level + ")", () -> store.merge(level));
            DUE.noSuch("entries(" + level + ", 0)", () -> store.entries(level, 0));
        }
        DUE.is("wrong levels: room()", 28, store.room());
    }

    private static void runsOfALevelStandTheNewestFirst() {
        RunStore store = Stores.formatted();
        for (int level = 2; level >= 0; level--) {
            for (int count = 1; count <= 3; count++) {
                Stores.flushKeys(store, 10, count);
                for (int merged = 0; merged < level; merged++) {
                    store.merge(merged);
                }
            }
        }
        for (int level = 0; level <= 2; level++) {
            for (int i = 0; i < 3; i++) {
                DUE.is("entries(" + level + ", " + i + ")", 3 - i, store.entries(level, i));
            }
        }
    }

    private static void twelveRunsAreTheMost() {
        RunStore store = Stores.formatted();
        for (int run = 1; run <= 12; run++) {
            store.put(run, run);
            DUE.is("flush() of run " + run, 1, store.flush());
            DUE.is("runs(0) with run " + run, run, store.runs(0));
        }
        store.put(13, 13);
        DUE.refusesUnchanged("flush() of run 13", UnsupportedOperationException.class, store, store::flush);
    }

    private static void twelveRunsOnThreeLevelsAreTheMost() {
        RunStore store = Stores.withFourRunsOnEachLevel();
        store.put(50, 5);
        DUE.refusesUnchanged("flush() with 4 runs on each level", UnsupportedOperationException.class, store,
                store::flush);
        store.merge(2);
        DUE.is("flush() with 9 runs", 1, store.flush());
    }

    // "MEMORY has at most 8 entries with different keys."

    private static void memoryHasAtMostEightEntries() {
        RunStore store = Stores.formatted();
        for (int count = 1; count <= 8; count++) {
            if (count % 2 == 0) {
                store.remove(count);
            } else {
                store.put(count, count);
            }
            DUE.is("memory() with " + count, count, store.memory());
            DUE.is("runs(0) with " + count + " in memory", 0, store.runs(0));
        }
        store.remove(9);
        DUE.is("memory() with the ninth", 1, store.memory());
        DUE.is("runs(0) with the ninth", 1, store.runs(0));
        DUE.is("entries(0, 0) with the ninth", 8, store.entries(0, 0));
    }

    private static void memoryHasDifferentKeys() {
        RunStore store = Stores.formatted();
        Stores.putKeys(store, 0, 8);
        for (int key = 0; key < 8; key++) {
            DUE.is("put of key " + key + " again", 8, store.put(key, -key));
            DUE.is("remove of key " + key, true, store.remove(key));
            DUE.is("put of key " + key + " over its mark", 8, store.put(key, key));
        }
        DUE.is("keys put again: runs(0)", 0, store.runs(0));
        DUE.is("keys put again: size()", 8, store.size());
    }

    // "What is OLDER: memory is newer than all runs, a run of a lesser level newer than those of a greater one."

    private static void lesserLevelsAreNewer() {
        RunStore store = Stores.formatted();
        int value = 0;
        for (int level = 2; level >= 0; level--) {
            for (int run = 0; run < 2; run++) {
                value++;
                store.put(5, value);
                store.put(10 + value, value);
                store.flush();
                DUE.is("get(5) of the newest run, for level " + level, value, store.get(5));
                for (int merged = 0; merged < level; merged++) {
                    store.merge(merged);
                    DUE.is("get(5) after merge(" + merged + ")", value, store.get(5));
                }
            }
        }
        DUE.is("two runs on each level: size()", 7, store.size());
        store.put(5, 99);
        DUE.is("get(5) of memory", 99, store.get(5));
        Stores.takeDown(store);
        store.recover();
        DUE.is("get(5) without memory", 6, store.get(5));
    }

    // "A key IS THERE with a value if its newest entry, in memory or in a run, has that value, and not a mark."

    private static void theNewestEntryDecides() {
        RunStore store = Stores.formatted();
        lookWhetherThere("no entry", store, false);
        for (int round = 0; round < 3; round++) {
            store.put(5, round);
            lookWhetherThere("a value in memory", store, true);
            store.flush();
            lookWhetherThere("a value in the newest run", store, true);
            store.remove(5);
            lookWhetherThere("a mark in memory", store, false);
            store.flush();
            lookWhetherThere("a mark in the newest run", store, false);
        }
        store.merge(0);
        lookWhetherThere("a mark that was left out", store, false);
    }

    private static void lookWhetherThere(String when, RunStore store, boolean there) {
        DUE.is("has(5) with " + when, there, store.has(5));
        DUE.is("seek(5) with " + when, there, store.seek(5));
        DUE.is("size() with " + when, there ? 1 : 0, store.size());
        if (!there) {
            DUE.noSuch("get(5) with " + when, () -> store.get(5));
        }
    }

    // "There is perhaps a CURSOR at a key that is there."
    // "It is gone when the store goes down, and after each format, recover, put, remove, flush, compact and merge
    // that does not throw (also if nothing happens)."

    private static void theCursorIsGoneWhenTheStoreGoesDown() {
        lookThatGoingDownEndsTheCursor("format()", RunStore::format);
        lookThatGoingDownEndsTheCursor("put(90, 1)", store -> store.put(90, 1));
        lookThatGoingDownEndsTheCursor("remove(90)", store -> store.remove(90));
        lookThatGoingDownEndsTheCursor("flush()", RunStore::flush);
        lookThatGoingDownEndsTheCursor("compact()", RunStore::compact);
        lookThatGoingDownEndsTheCursor("merge(0)", store -> store.merge(0));
    }

    private static void lookThatGoingDownEndsTheCursor(String call, Consumer<RunStore> downward) {
        RunStore store = withFourRunsAndFullMemory();
        store.seek(2);
        store.limit(0);
        DUE.illegalState(call + " with limit 0", () -> downward.accept(store));
        DUE.is(call + " went down: key()", RunStore.NONE, store.key());
        DUE.is(call + " went down: value()", 0, store.value());
        store.recover();
        DUE.is(call + " went down, recover(): key()", RunStore.NONE, store.key());
        DUE.illegalState(call + " went down, recover(): next()", store::next);
    }

    private static void theCursorIsGoneAfterEachCallThatDoesNotThrow() {
        lookThatCallEndsTheCursor("format()", RunStore::format);
        lookThatCallEndsTheCursor("put(90, 1), which flushes", store -> store.put(90, 1));
        lookThatCallEndsTheCursor("remove(90), which flushes", store -> store.remove(90));
        lookThatCallEndsTheCursor("put(52, 1), in memory", store -> store.put(52, 1));
        lookThatCallEndsTheCursor("remove(52), in memory", store -> store.remove(52));
        lookThatCallEndsTheCursor("flush()", RunStore::flush);
        lookThatCallEndsTheCursor("compact()", RunStore::compact);
        lookThatCallEndsTheCursor("merge(0)", store -> store.merge(0));
        RunStore store = Stores.formatted();
        store.put(1, 1);
        store.seek(0);
        Stores.takeDown(store);
        store.recover();
        DUE.is("recover(): key()", RunStore.NONE, store.key());
        DUE.is("recover(): value()", 0, store.value());
    }

    private static void theCursorIsGoneAlsoIfNothingHappens() {
        lookThatCallEndsTheCursor("put(50, 500), as it was", store -> store.put(50, 500));
        lookThatCallEndsTheCursor("merge(1) without runs", store -> store.merge(1));
        lookThatCallEndsTheCursor("merge(2) without runs", store -> store.merge(2));
        lookThatCallEndsTheCursor(Stores::withTwelveRuns, "flush() without entries", RunStore::flush);
        lookThatCallEndsTheCursor(TermsTest::withThreeRuns, "compact() with 3 runs", RunStore::compact);
        lookThatCallEndsTheCursor(TermsTest::withThreeRuns, "remove(90), not there", store -> store.remove(90));
        lookThatCallEndsTheCursor(TermsTest::withThreeRuns, "remove(90), marked", store -> {
            store.remove(90);
            store.seek(0);
            store.remove(90);
        });
    }

    private static void lookThatCallEndsTheCursor(String call, Consumer<RunStore> changing) {
        lookThatCallEndsTheCursor(TermsTest::withFourRunsAndFullMemory, call, changing);
    }

    private static void lookThatCallEndsTheCursor(Supplier<RunStore> made, String call,
            Consumer<RunStore> changing) {
        RunStore store = made.get();
        DUE.is(call + ": seek(2) before", true, store.seek(2));
        changing.accept(store);
        DUE.is(call + ": key()", RunStore.NONE, store.key());
        DUE.is(call + ": value()", 0, store.value());
        DUE.illegalState(call + ": next()", store::next);
    }

    private static void theCursorStaysAfterOtherCalls() {
        RunStore store = withFourRunsAndFullMemory();
        store.seek(2);
        String before = Stores.told(store);
        store.has(2);
        store.limit(7);
        store.limit(0);
        store.limit(-1);
        DUE.isText("after calls that look, and limits: the store", before, Stores.told(store));
        DUE.is("after calls that look: next()", true, store.next());
        DUE.is("after calls that look: key()", 3, store.key());
    }

    // "A call that throws changes nothing but what is said; exceptions are looked at in the order of the throws
    // clause."

    private static void aCallThatThrowsChangesNothing() {
        lookThatNothingChanges("put(100, 1)", IllegalArgumentException.class, store -> store.put(100, 1));
        lookThatNothingChanges("put(90, 1)", UnsupportedOperationException.class, store -> store.put(90, 1));
        lookThatNothingChanges("put(3, 1)", UnsupportedOperationException.class, store -> store.put(3, 1));
        lookThatNothingChanges("remove(-1)", IllegalArgumentException.class, store -> store.remove(-1));
        lookThatNothingChanges("remove(90)", UnsupportedOperationException.class, store -> store.remove(90));
        lookThatNothingChanges("remove(3)", UnsupportedOperationException.class, store -> store.remove(3));
        lookThatNothingChanges("get(100)", IllegalArgumentException.class, store -> store.get(100));
        lookThatNothingChanges("get(90)", java.util.NoSuchElementException.class, store -> store.get(90));
        lookThatNothingChanges("has(100)", IllegalArgumentException.class, store -> store.has(100));
        lookThatNothingChanges("flush()", UnsupportedOperationException.class, RunStore::flush);
        lookThatNothingChanges("merge(3)", IllegalArgumentException.class, store -> store.merge(3));
        lookThatNothingChanges("limit(1001)", IllegalArgumentException.class, store -> store.limit(1001));
        lookThatNothingChanges("limit(-2)", IllegalArgumentException.class, store -> store.limit(-2));
        lookThatNothingChanges("seek(100)", IllegalArgumentException.class, store -> store.seek(100));
        lookThatNothingChanges("seek(-1)", IllegalArgumentException.class, store -> store.seek(-1));
        lookThatNothingChanges("runs(3)", IllegalArgumentException.class, store -> store.runs(3));
        lookThatNothingChanges("entries(1, 0)", java.util.NoSuchElementException.class, store -> store.entries(1, 0));
        lookThatNothingChanges("recover()", IllegalStateException.class, RunStore::recover);
    }

    private static void lookThatNothingChanges(String call, Class<? extends RuntimeException> want,
            Consumer<RunStore> tried) {
        RunStore store = Stores.withTwelveRuns();
        Stores.putKeys(store, 50, 7);
        store.remove(57);
        store.seek(4);
        store.limit(9);
        DUE.refusesUnchanged(call, want, store, () -> tried.accept(store));
    }

    private static void aCallThatThrowsLeavesADownStoreDown() {
        RunStore store = Stores.withFourRunsOnEachLevel();
        RunStore other = Stores.withFourRunsOnEachLevel();
        Stores.takeDown(store);
        Stores.takeDown(other);
        store.limit(9);
        DUE.illegalState("down: put(0, 1)", () -> store.put(0, 1));
        DUE.illegalState("down: remove(0)", () -> store.remove(0));
        DUE.illegalState("down: flush()", store::flush);
        DUE.illegalState("down: compact()", store::compact);
        DUE.illegalState("down: merge(2)", () -> store.merge(2));
        DUE.illegalState("down: seek(0)", () -> store.seek(0));
        DUE.illegalState("down: next()", store::next);
        DUE.is("down: memory()", RunStore.NONE, store.memory());
        DUE.is("down: left()", 9, store.left());
        DUE.is("down: key()", RunStore.NONE, store.key());
        store.limit(-1);
        DUE.isText("down, then up: the store", Stores.toldOfDisk(other), Stores.toldOfDisk(store));
    }

    private static void wrongArgumentsAreSeenBeforeADownStore() {
        RunStore neverMade = new RunStore();
        DUE.illegalArgument("never made: limit(1001)", () -> neverMade.limit(1001));
        DUE.illegalArgument("never made: limit(-2)", () -> neverMade.limit(-2));
        for (RunStore store : new RunStore[] {neverMade, Stores.downWithDisk()}) {
            DUE.illegalArgument("down: put(100, 1)", () -> store.put(100, 1));
            DUE.illegalArgument("down: put(-1, 1)", () -> store.put(-1, 1));
            DUE.illegalArgument("down: remove(100)", () -> store.remove(100));
            DUE.illegalArgument("down: get(-1)", () -> store.get(-1));
            DUE.illegalArgument("down: has(100)", () -> store.has(100));
            DUE.illegalArgument("down: merge(3)", () -> store.merge(3));
            DUE.illegalArgument("down: merge(-1)", () -> store.merge(-1));
            DUE.illegalArgument("down: seek(100)", () -> store.seek(100));
            DUE.illegalArgument("down: runs(3)", () -> store.runs(3));
        }
    }

    private static void wrongArgumentsAreSeenBeforeNoRoom() {
        RunStore store = Stores.withTwelveRuns();
        Stores.putKeys(store, 50, 8);
        DUE.illegalArgument("no room: put(100, 1)", () -> store.put(100, 1));
        DUE.illegalArgument("no room: put(-1, 1)", () -> store.put(-1, 1));
        DUE.illegalArgument("no room: remove(100)", () -> store.remove(100));
        DUE.illegalArgument("no room: remove(-1)", () -> store.remove(-1));
        DUE.is("no room: memory()", 8, store.memory());
    }

    private static void wrongArgumentsAreSeenBeforeALimitOf0() {
        RunStore store = withFourRunsAndFullMemory();
        store.limit(0);
        DUE.illegalArgument("limit 0: put(100, 1)", () -> store.put(100, 1));
        DUE.illegalArgument("limit 0: remove(-1)", () -> store.remove(-1));
        DUE.illegalArgument("limit 0: merge(3)", () -> store.merge(3));
        DUE.illegalArgument("limit 0: merge(-1)", () -> store.merge(-1));
        DUE.is("limit 0: memory()", 8, store.memory());
        DUE.is("limit 0: left()", 0, store.left());
    }

    private static void aDownStoreIsSeenBeforeWhatIsNotThere() {
        for (RunStore store : new RunStore[] {new RunStore(), Stores.downWithDisk()}) {
            DUE.illegalState("down: get(0), not there", () -> store.get(0));
            DUE.illegalState("down: entries(0, 0), not there", () -> store.entries(0, 0));
            DUE.illegalState("down: entries(3, 0), no such level", () -> store.entries(3, 0));
            DUE.illegalState("down: entries(0, -1), no such run", () -> store.entries(0, -1));
        }
    }

    // "IllegalStateException: the store is down (at first it is); or it goes down in this call."

    private static void atFirstTheStoreIsDown() {
        RunStore store = new RunStore();
        DUE.illegalState("at first: put(0, 1)", () -> store.put(0, 1));
        DUE.illegalState("at first: remove(0)", () -> store.remove(0));
        DUE.illegalState("at first: get(0)", () -> store.get(0));
        DUE.illegalState("at first: has(0)", () -> store.has(0));
        DUE.illegalState("at first: flush()", store::flush);
        DUE.illegalState("at first: compact()", store::compact);
        DUE.illegalState("at first: merge(0)", () -> store.merge(0));
        DUE.illegalState("at first: seek(0)", () -> store.seek(0));
        DUE.illegalState("at first: next()", store::next);
        DUE.illegalState("at first: size()", store::size);
        DUE.illegalState("at first: runs(0)", () -> store.runs(0));
        DUE.illegalState("at first: entries(0, 0)", () -> store.entries(0, 0));
        DUE.illegalState("at first: room()", store::room);
        DUE.is("at first: memory()", RunStore.NONE, store.memory());
    }

    // "UnsupportedOperationException: there is no room."

    private static void noRoomIsToldByEachCallThatWritesARun() {
        RunStore full = Stores.withoutFreeBlock();
        full.put(90, 9);
        DUE.noRoom("no room: flush()", full::flush);
        DUE.noRoom("no room: merge(0)", () -> full.merge(0));
        DUE.noRoom("no room: merge(1)", () -> full.merge(1));
        DUE.noRoom("no room: compact()", full::compact);
        Stores.putKeys(full, 91, 7);
        DUE.noRoom("no room: put(0, 1)", () -> full.put(0, 1));
        DUE.noRoom("no room: remove(0)", () -> full.remove(0));
        DUE.is("no room: memory()", 8, full.memory());
        DUE.is("no room: merge(2), which writes no run", 0, full.merge(2));
    }

    // "IllegalArgumentException: a key is not 0 .. 99 (or as said)."

    private static void wrongArgumentsAreToldByEachCall() {
        RunStore store = withFourRunsAndFullMemory();
        for (int key : KEYS_OUTSIDE) {
            DUE.illegalArgument("put(" + key + ", 0)", () -> store.put(key, 0));
            DUE.illegalArgument("remove(" + key + ")", () -> store.remove(key));
            DUE.illegalArgument("get(" + key + ")", () -> store.get(key));
            DUE.illegalArgument("has(" + key + ")", () -> store.has(key));
            DUE.illegalArgument("seek(" + key + ")", () -> store.seek(key));
        }
        for (int level : LEVELS_OUTSIDE) {
            DUE.illegalArgument("runs(" + level + ")", () -> store.runs(level));
            DUE.illegalArgument("merge(" + level + ")", () -> store.merge(level));
        }
        for (int n : new int[] {-2, 1001, Integer.MIN_VALUE, Integer.MAX_VALUE}) {
            DUE.illegalArgument("limit(" + n + ")", () -> store.limit(n));
        }
        DUE.is("wrong arguments: memory()", 8, store.memory());
        DUE.is("wrong arguments: left()", RunStore.NONE, store.left());
    }

    /** Runs of the keys 1 .. 4 on level 0, and 8 entries in memory, of the keys 50 .. 57. */
    private static RunStore withFourRunsAndFullMemory() {
        RunStore store = withThreeRuns();
        Stores.flushKeys(store, 4, 1);
        Stores.putKeys(store, 50, 8);
        return store;
    }

    private static RunStore withThreeRuns() {
        RunStore store = Stores.formatted();
        for (int key = 1; key <= 3; key++) {
            Stores.flushKeys(store, key, 1);
        }
        return store;
    }
}
