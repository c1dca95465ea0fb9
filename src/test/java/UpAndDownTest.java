/**
 * Promises 1 to 3, 11 and 12: a new object, format, recover, limit, left; and going down in each call. The sentences
 * of a promise stand over the tests of them.
 */
public final class UpAndDownTest {
    private static final Due DUE = new Due("UpAndDownTest");

    public static void main(String[] args) {
        promise1NewObjectIsDownWithoutLimit();
        promise1NewObjectRefusesWrongArgumentsFirst();
        promise2FormatMakesTheDiskAnewWhenUp();
        promise2FormatMakesTheDiskAnewWhenDown();
        promise2FormatThatGoesWrongLeavesTheDisk();
        promise2FormatTakesOneWrite();
        promise2FormatBringsUpANewStore();
        promise2FormatOfAFullDisk();
        promise3RecoverBringsUpWhatTheListSays();
        promise3RecoverAnswersTheRunsOfAllLevels();
        promise3RecoverOfUpStoreOrNoDiskThrows();
        promise3RecoverWritesNothing();
        promise11LimitCountsFromNowOn();
        promise11LimitsAtTheEdges();
        promise11LimitIsTakenWhenDown();
        promise11LimitOfNoneIsNeverUsedUp();
        promise11LimitIsRefusedWithoutADisk();
        promise12LeftWithoutALimit();
        promise12LeftTellsTheWritesThatAreLeft();
        goingDownAtEachWriteOfAFlush();
        goingDownAtEachWriteOfAMerge();
        goingDownInAPutOrRemove();
        goingDownInACompact();
        downStoreAnswersNothing();
        noRoomIsSeenBeforeTheLimit();
        DUE.end();
    }

    // "The disk was never made; the store is down, no limit."

    private static void promise1NewObjectIsDownWithoutLimit() {
        RunStore store = new RunStore();
        DUE.is("new: memory()", RunStore.NONE, store.memory());
        DUE.is("new: left()", RunStore.NONE, store.left());
        DUE.is("new: key()", RunStore.NONE, store.key());
        DUE.is("new: value()", 0, store.value());
        DUE.illegalState("new: recover()", store::recover);
        DUE.illegalState("new: limit(5)", () -> store.limit(5));
        DUE.illegalState("new: limit(-1)", () -> store.limit(-1));
        lookThatAllCallsAreRefused("new", store);
        DUE.is("NONE", -1, RunStore.NONE);
    }

    private static void promise1NewObjectRefusesWrongArgumentsFirst() {
        RunStore store = new RunStore();
        DUE.illegalArgument("new: put(100, 1)", () -> store.put(100, 1));
        DUE.illegalArgument("new: remove(-1)", () -> store.remove(-1));
        DUE.illegalArgument("new: get(100)", () -> store.get(100));
        DUE.illegalArgument("new: has(-1)", () -> store.has(-1));
        DUE.illegalArgument("new: merge(3)", () -> store.merge(3));
        DUE.illegalArgument("new: limit(-2)", () -> store.limit(-2));
        DUE.illegalArgument("new: limit(1001)", () -> store.limit(1001));
        DUE.illegalArgument("new: seek(100)", () -> store.seek(100));
        DUE.illegalArgument("new: runs(-1)", () -> store.runs(-1));
        DUE.illegalState("new: entries(3, -1)", () -> store.entries(3, -1));
    }

    // "Makes the disk anew, up or down: no runs, no entries in memory; the list is written (which may go wrong: the
    // disk is as it was then, and the store down)."

    private static void promise2FormatMakesTheDiskAnewWhenUp() {
        RunStore store = Stores.formatted();
        Stores.flushKeys(store, 0, 5);
        store.merge(0);
        Stores.flushKeys(store, 5, 5);
        Stores.putKeys(store, 20, 3);
        store.format();
        lookThatStoreIsEmpty("format when up", store);
    }

    private static void promise2FormatMakesTheDiskAnewWhenDown() {
        RunStore store = Stores.formatted();
        Stores.flushKeys(store, 0, 5);
        Stores.takeDown(store);
        store.format();
        lookThatStoreIsEmpty("format when down", store);
        DUE.illegalState("format when down: recover()", store::recover);
    }

    private static void promise2FormatThatGoesWrongLeavesTheDisk() {
        RunStore store = Stores.formatted();
        Stores.flushKeys(store, 0, 5);
        store.put(9, 9);
        store.limit(0);
        DUE.illegalState("format with limit 0", store::format);
        DUE.is("format went wrong: memory()", RunStore.NONE, store.memory());
        DUE.is("format went wrong: left()", RunStore.NONE, store.left());
        store.limit(0);
        DUE.illegalState("format with limit 0 when down", store::format);
        DUE.is("format went wrong when down: left()", RunStore.NONE, store.left());
        DUE.is("format went wrong: recover()", 1, store.recover());
        DUE.is("format went wrong: size()", 5, store.size());
        DUE.is("format went wrong: memory() then", 0, store.memory());
    }

    private static void promise2FormatTakesOneWrite() {
        RunStore store = Stores.formatted();
        Stores.flushKeys(store, 0, 8);
        store.limit(1);
        store.format();
        DUE.is("format with limit 1: left()", 0, store.left());
        DUE.is("format with limit 1: memory()", 0, store.memory());
    }

    // "It is up then."

    private static void promise2FormatBringsUpANewStore() {
        RunStore store = new RunStore();
        store.format();
        lookThatStoreIsEmpty("format of a new store", store);
        DUE.is("format of a new store: left()", RunStore.NONE, store.left());
        DUE.is("format of a new store: put(0, 1)", 1, store.put(0, 1));
        store.format();
        lookThatStoreIsEmpty("format again", store);
        DUE.is("format again: has(0)", false, store.has(0));
    }

    private static void promise2FormatOfAFullDisk() {
        RunStore store = Stores.withoutFreeBlock();
        Stores.putKeys(store, 80, 8);
        store.format();
        lookThatStoreIsEmpty("format of a full disk", store);
        DUE.is("format of a full disk: has(8)", false, store.has(8));
        Stores.flushKeys(store, 0, 1);
        DUE.is("format of a full disk, then a run: room()", 39, store.room());
    }

    // "Brings the store up, if it is down, with what is on the disk (memory has no entries; nothing is written)."

    private static void promise3RecoverBringsUpWhatTheListSays() {
        RunStore store = Stores.formatted();
        Stores.flushKeys(store, 0, 5);
        store.merge(0);
        Stores.flushKeys(store, 3, 4);
        store.remove(0);
        store.flush();
        Stores.putKeys(store, 50, 2);
        Stores.takeDown(store);
        DUE.is("recover()", 3, store.recover());
        DUE.is("recovered: memory()", 0, store.memory());
        DUE.is("recovered: runs(0)", 2, store.runs(0));
        DUE.is("recovered: runs(1)", 1, store.runs(1));
        DUE.is("recovered: has(0)", false, store.has(0));
        DUE.is("recovered: get(6)", 60, store.get(6));
        DUE.is("recovered: has(50)", false, store.has(50));
        DUE.is("recovered: size()", 6, store.size());
        DUE.is("recovered: room()", 40 - 2 - 1 - 1, store.room());
    }

    // "Answers how many runs there are."

    private static void promise3RecoverAnswersTheRunsOfAllLevels() {
        DUE.is("recover() of no runs", 0, Stores.downWithDisk().recover());
        RunStore twelve = Stores.withFourRunsOnEachLevel();
        Stores.takeDown(twelve);
        DUE.is("recover() of 12 runs", 12, twelve.recover());
        DUE.is("recover() of 12 runs: size()", 12, twelve.size());
        RunStore full = Stores.withoutFreeBlock();
        Stores.takeDown(full);
        DUE.is("recover() of a full disk", 12, full.recover());
        DUE.is("recover() of a full disk: room()", 0, full.room());
        full.merge(2);
        Stores.takeDown(full);
        DUE.is("recover() after a merge to nothing", 10, full.recover());
    }

    // "IllegalStateException when it is up, or the disk was never made."

    private static void promise3RecoverOfUpStoreOrNoDiskThrows() {
        RunStore store = new RunStore();
        DUE.illegalState("recover() without disk", store::recover);
        DUE.is("recover() without disk: memory()", RunStore.NONE, store.memory());
        store.format();
        store.put(1, 11);
        store.seek(0);
        DUE.illegalState("recover() when up", store::recover);
        DUE.is("recover() when up: memory()", 1, store.memory());
        DUE.is("recover() when up: key()", 1, store.key());
    }

    private static void promise3RecoverWritesNothing() {
        RunStore store = Stores.downWithDisk();
        store.limit(0);
        DUE.is("recover() with limit 0", 0, store.recover());
        DUE.is("recover() with limit 0: left()", 0, store.left());
        RunStore other = Stores.downWithDisk();
        other.limit(7);
        other.recover();
        DUE.is("recover() with limit 7: left()", 7, other.left());
    }

    // "The limit is n writes from now on (also when the store is down); none for -1."

    private static void promise11LimitCountsFromNowOn() {
        RunStore store = Stores.formatted();
        store.limit(2);
        Stores.flushKeys(store, 0, 1);
        DUE.is("limit used up: left()", 0, store.left());
        store.limit(2);
        Stores.flushKeys(store, 1, 1);
        store.limit(1);
        store.put(2, 2);
        DUE.illegalState("limit(1) after limit(2): flush()", store::flush);
        DUE.is("limit(1) after limit(2): recover()", 2, store.recover());
    }

    private static void promise11LimitIsTakenWhenDown() {
        RunStore store = Stores.downWithDisk();
        store.limit(2);
        DUE.is("limit(2) when down: left()", 2, store.left());
        DUE.is("limit(2) when down: memory()", RunStore.NONE, store.memory());
        store.recover();
        store.put(1, 1);
        DUE.is("limit(2) when down, then flush()", 1, store.flush());
        store.put(2, 2);
        DUE.illegalState("limit used up, flush()", store::flush);
    }

    private static void promise11LimitOfNoneIsNeverUsedUp() {
        RunStore store = Stores.formatted();
        store.limit(0);
        store.limit(-1);
        Stores.flushKeys(store, 0, 8);
        store.merge(0);
        store.format();
        DUE.is("limit(-1) after writes: left()", RunStore.NONE, store.left());
    }

    // "IllegalArgumentException when n is less than -1 or above 1000; IllegalStateException when the disk was never
    // made."

    private static void promise11LimitsAtTheEdges() {
        RunStore store = Stores.formatted();
        store.limit(1000);
        DUE.is("limit(1000): left()", 1000, store.left());
        DUE.illegalArgument("limit(1001)", () -> store.limit(1001));
        DUE.illegalArgument("limit(-2)", () -> store.limit(-2));
        DUE.illegalArgument("limit(least)", () -> store.limit(Integer.MIN_VALUE));
        DUE.illegalArgument("limit(greatest)", () -> store.limit(Integer.MAX_VALUE));
        DUE.is("limit refused: left()", 1000, store.left());
        store.limit(0);
        DUE.is("limit(0): left()", 0, store.left());
        DUE.is("limit(0): memory()", 0, store.memory());
        store.limit(-1);
        DUE.is("limit(-1): left()", RunStore.NONE, store.left());
        store.put(4, 4);
        store.seek(0);
        store.limit(3);
        DUE.is("limit(3) leaves the cursor", 4, store.key());
    }

    private static void promise11LimitIsRefusedWithoutADisk() {
        RunStore store = new RunStore();
        for (int n : new int[] {-1, 0, 1, 1000}) {
            DUE.illegalState("never made: limit(" + n + ")", () -> store.limit(n));
        }
        DUE.is("never made: left()", RunStore.NONE, store.left());
        store.format();
        DUE.is("limit refused, then format(): left()", RunStore.NONE, store.left());
    }

    // "The limit; NONE for none."

    private static void promise12LeftWithoutALimit() {
        RunStore store = new RunStore();
        DUE.is("new: left()", RunStore.NONE, store.left());
        store.format();
        DUE.is("formatted: left()", RunStore.NONE, store.left());
        Stores.takeDown(store);
        DUE.is("went down: left()", RunStore.NONE, store.left());
        store.limit(0);
        DUE.is("down with limit(0): left()", 0, store.left());
        store.limit(1000);
        DUE.is("down with limit(1000): left()", 1000, store.left());
        store.recover();
        DUE.is("recovered with limit(1000): left()", 1000, store.left());
    }

    private static void promise12LeftTellsTheWritesThatAreLeft() {
        RunStore store = Stores.formatted();
        store.limit(20);
        store.flush();
        store.merge(0);
        store.compact();
        DUE.is("nothing written: left()", 20, store.left());
        Stores.flushKeys(store, 0, 4);
        DUE.is("4 entries flushed: left()", 18, store.left());
        Stores.flushKeys(store, 4, 5);
        DUE.is("5 entries flushed: left()", 15, store.left());
        store.merge(0);
        DUE.is("9 entries merged: left()", 11, store.left());
        Stores.putKeys(store, 50, 9);
        DUE.is("8 entries flushed in a put: left()", 8, store.left());
        store.put(58, 1);
        store.remove(58);
        DUE.is("only memory changed: left()", 8, store.left());
        store.format();
        DUE.is("formatted: left()", 7, store.left());
    }

    private static void goingDownAtEachWriteOfAFlush() {
        for (int writes = 0; writes <= 3; writes++) {
            RunStore store = Stores.formatted();
            Stores.flushKeys(store, 0, 2);
            Stores.putKeys(store, 1, 5);
            store.put(1, 77);
            store.seek(0);
            store.limit(writes);
            String when = "flush of 2 blocks with limit " + writes;
            if (writes == 3) {
                DUE.is(when, 5, store.flush());
                DUE.is(when + ": left()", 0, store.left());
                Stores.takeDown(store);
                DUE.is(when + ": recover()", 2, store.recover());
                DUE.is(when + ": get(1)", 77, store.get(1));
                continue;
            }
            DUE.illegalState(when, store::flush);
            lookThatStoreWentDown(when, store);
            DUE.is(when + ": recover()", 1, store.recover());
            DUE.is(when + ": memory()", 0, store.memory());
            DUE.is(when + ": get(1)", 10, store.get(1));
            DUE.is(when + ": size()", 2, store.size());
            DUE.is(when + ": room()", 39, store.room());
        }
    }

    private static void goingDownAtEachWriteOfAMerge() {
        for (int writes = 0; writes <= 4; writes++) {
            RunStore store = Stores.formatted();
            Stores.flushKeys(store, 0, 5);
            Stores.flushKeys(store, 4, 6);
            store.put(70, 7);
            store.limit(writes);
            String when = "merge to 3 blocks with limit " + writes;
            if (writes == 4) {
                DUE.is(when, 10, store.merge(0));
                DUE.is(when + ": memory()", 1, store.memory());
                DUE.is(when + ": runs(0)", 0, store.runs(0));
                continue;
            }
            DUE.illegalState(when, () -> store.merge(0));
            lookThatStoreWentDown(when, store);
            DUE.is(when + ": recover()", 2, store.recover());
            DUE.is(when + ": runs(0)", 2, store.runs(0));
            DUE.is(when + ": runs(1)", 0, store.runs(1));
            DUE.is(when + ": room()", 36, store.room());
            DUE.is(when + ": has(70)", false, store.has(70));
        }
    }

    private static void goingDownInAPutOrRemove() {
        RunStore store = Stores.formatted();
        Stores.flushKeys(store, 90, 1);
        Stores.putKeys(store, 0, 8);
        store.limit(2);
        DUE.illegalState("put(90, 1) that flushes with limit 2", () -> store.put(90, 1));
        lookThatStoreWentDown("put that flushes with limit 2", store);
        store.recover();
        DUE.is("put went down: get(90)", 900, store.get(90));
        DUE.is("put went down: size()", 1, store.size());
        Stores.putKeys(store, 0, 8);
        store.limit(0);
        DUE.is("put(3, 5) with limit 0 and the key in memory", 8, store.put(3, 5));
        DUE.is("remove(3) with limit 0 and the key in memory", true, store.remove(3));
        DUE.illegalState("remove(90) that flushes with limit 0", () -> store.remove(90));
        lookThatStoreWentDown("remove that flushes with limit 0", store);
        store.recover();
        DUE.is("remove went down: has(90)", true, store.has(90));
    }

    private static void goingDownInACompact() {
        RunStore store = Stores.formatted();
        for (int key = 0; key < 4; key++) {
            Stores.flushKeys(store, key, 1);
        }
        store.limit(1);
        DUE.illegalState("compact() with limit 1", store::compact);
        lookThatStoreWentDown("compact with limit 1", store);
        DUE.is("compact went down: recover()", 4, store.recover());
        store.limit(2);
        DUE.is("compact() with limit 2", 0, store.compact());
        DUE.is("compact() with limit 2: left()", 0, store.left());
    }

    private static void downStoreAnswersNothing() {
        RunStore store = Stores.downWithDisk();
        lookThatStoreWentDown("down", store);
        lookThatAllCallsAreRefused("down", store);
    }

    private static void noRoomIsSeenBeforeTheLimit() {
        RunStore store = Stores.withTwelveRuns();
        store.put(50, 5);
        store.limit(0);
        DUE.noRoom("flush() with 12 runs and limit 0", store::flush);
        DUE.is("no room and limit 0: memory()", 1, store.memory());
        DUE.is("no room and limit 0: left()", 0, store.left());
    }

    private static void lookThatAllCallsAreRefused(String when, RunStore store) {
        DUE.illegalState(when + ": put(0, 1)", () -> store.put(0, 1));
        DUE.illegalState(when + ": remove(0)", () -> store.remove(0));
        DUE.illegalState(when + ": get(0)", () -> store.get(0));
        DUE.illegalState(when + ": has(0)", () -> store.has(0));
        DUE.illegalState(when + ": flush()", store::flush);
        DUE.illegalState(when + ": compact()", store::compact);
        DUE.illegalState(when + ": merge(0)", () -> store.merge(0));
        DUE.illegalState(when + ": seek(0)", () -> store.seek(0));
        DUE.illegalState(when + ": next()", store::next);
        DUE.illegalState(when + ": size()", store::size);
        DUE.illegalState(when + ": runs(0)", () -> store.runs(0));
        DUE.illegalState(when + ": entries(0, 0)", () -> store.entries(0, 0));
        DUE.illegalState(when + ": room()", store::room);
    }

    private static void lookThatStoreWentDown(String when, RunStore store) {
        DUE.is(when + ": memory()", RunStore.NONE, store.memory());
        DUE.is(when + ": left()", RunStore.NONE, store.left());
        DUE.is(when + ": key()", RunStore.NONE, store.key());
        DUE.is(when + ": value()", 0, store.value());
        DUE.illegalState(when + ": size()", store::size);
    }

    private static void lookThatStoreIsEmpty(String when, RunStore store) {
        DUE.is(when + ": memory()", 0, store.memory());
        DUE.is(when + ": size()", 0, store.size());
        DUE.is(when + ": room()", 40, store.room());
        for (int level = 0; level < 3; level++) {
            DUE.is(when + ": runs(" + level + ")", 0, store.runs(level));
        }
    }
}
