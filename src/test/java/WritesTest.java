import java.util.function.Consumer;
import java.util.function.Supplier;

/**
 * The document's section 'Terms' on writes, the limit, room, flushing and merging: each sentence that names an edge
 * stands over the tests of it.
 */
public final class WritesTest {
    private static final Due DUE = new Due("WritesTest");

    private static final int[] NO_ROOM_LIMITS = {RunStore.NONE, 0, 1, 2, 1000};

    /** A call, the store that it is called on, and how many writes it takes. */
    private record Case(String name, int writes, Supplier<RunStore> made, Consumer<RunStore> call) {
    }

    private static final Case[] WRITING = {
        new Case("format() when up", 1, WritesTest::withThreeLevels, RunStore::format),
        new Case("format() when down", 1, WritesTest::downWithThreeLevels, RunStore::format),
        new Case("flush() of 1", 2, () -> withInMemory(1), RunStore::flush),
        new Case("flush() of 4", 2, () -> withInMemory(4), RunStore::flush),
        new Case("flush() of 5", 3, () -> withInMemory(5), RunStore::flush),
        new Case("flush() of 8", 3, () -> withInMemory(8), RunStore::flush),
        new Case("flush() of a mark", 2, WritesTest::withMarkInMemory, RunStore::flush),
        new Case("put() that flushes 8", 3, () -> withInMemory(8), store -> store.put(20, 1)),
        new Case("remove() that flushes 8", 3, () -> withInMemory(8), store -> store.remove(20)),
        new Case("merge(0) of one run", 2, WritesTest::withThreeLevels, store -> store.merge(0)),
        new Case("merge(1) of one run", 3, WritesTest::withThreeLevels, store -> store.merge(1)),
        new Case("merge(2) of one run", 4, WritesTest::withThreeLevels, store -> store.merge(2)),
        new Case("merge(0) of 12 runs", 4, Stores::withTwelveRuns, store -> store.merge(0)),
        new Case("merge(1) of 80 entries", 21, Stores::withTwentyBlocksFree, store -> store.merge(1)),
        new Case("merge(0) to nothing", 1, WritesTest::withMarksAlone, store -> store.merge(0)),
        new Case("merge(2) to nothing", 1, Stores::withoutFreeBlock, store -> store.merge(2)),
        new Case("compact() of level 0", 4, Stores::withTwelveRuns, RunStore::compact),
        new Case("compact() of level 1", 2, () -> withFourRunsOn(1), RunStore::compact),
        new Case("compact() of level 2", 2, () -> withFourRunsOn(2), RunStore::compact),
        new Case("compact() to nothing", 1, WritesTest::withMarksAlone, RunStore::compact),
    };

    private static final Case[] NOT_WRITING = {
        new Case("flush() without entries", 0, Stores::withTwelveRuns, RunStore::flush),
        new Case("compact() with 3 runs", 0, WritesTest::withThreeLevels, RunStore::compact),
        new Case("merge(0) without runs", 0, Stores::withTwentyBlocksFree, store -> store.merge(0)),
        new Case("merge(2) without runs", 0, Stores::withTwelveRuns, store -> store.merge(2)),
        new Case("put() as entry 8", 0, () -> withInMemory(7), store -> store.put(20, 1)),
        new Case("remove() as entry 8", 0, () -> withInMemory(7), store -> store.remove(20)),
        new Case("put() of a key in full memory", 0, () -> withInMemory(8), store -> store.put(33, 1)),
        new Case("remove() of a key in full memory", 0, () -> withInMemory(8), store -> store.remove(33)),
        new Case("recover()", 0, WritesTest::downWithThreeLevels, RunStore::recover),
        new Case("seek(0)", 0, WritesTest::withThreeLevels, store -> store.seek(0)),
    };

    private static final Case[] WITHOUT_ROOM = {
        new Case("flush() with 12 runs", 2, () -> withTwelveRunsAnd(1), RunStore::flush),
        new Case("flush() of 8 with 12 runs", 3, () -> withTwelveRunsAnd(8), RunStore::flush),
        new Case("put() with 12 runs", 3, () -> withTwelveRunsAnd(8), store -> store.put(20, 1)),
        new Case("remove() with 12 runs", 3, () -> withTwelveRunsAnd(8), store -> store.remove(20)),
        new Case("remove() of a key in one of 12 runs", 3, () -> withTwelveRunsAnd(8), store -> store.remove(3)),
        new Case("flush() of 1 with 0 free", 2, () -> withElevenRunsAnd(0, 1), RunStore::flush),
        new Case("flush() of 5 with 1 free", 3, () -> withElevenRunsAnd(1, 5), RunStore::flush),
        new Case("flush() of 8 with 1 free", 3, () -> withElevenRunsAnd(1, 8), RunStore::flush),
        new Case("put() with 1 free", 3, () -> withElevenRunsAnd(1, 8), store -> store.put(99, 1)),
        new Case("remove() with 1 free", 3, () -> withElevenRunsAnd(1, 8), store -> store.remove(99)),
        new Case("remove() of a key that is there with 1 free", 3, () -> withElevenRunsAnd(1, 8),
                store -> store.remove(5)),
        new Case("merge(0) of 81 entries", 22, WritesTest::with81EntriesOnLevel0, store -> store.merge(0)),
        new Case("compact() of 81 entries", 22, WritesTest::with81EntriesOnLevel0, RunStore::compact),
        new Case("merge(1) of 20 blocks with 19 free", 21, () -> with19FreeAndOneRunOn(1), store -> store.merge(1)),
        new Case("merge(2) of 20 blocks with 19 free", 21, () -> with19FreeAndOneRunOn(2), store -> store.merge(2)),
        new Case("compact() of level 2 with 9 free", 11, () -> withLevel2OfFourGreatRuns(9), RunStore::compact),
    };

    public static void main(String[] args) {
        aWriteForEachBlockAndOneForTheList();
        theStoreGoesDownWhenTheLimitIs0();
        theLimitBecomesOneLessWithEachWrite();
        aLimitThatIsNoneStaysSo();
        callsThatDoNotWriteDoNotLookAtTheLimit();
        goneDownThereIsNeitherMemoryNorLimit();
        goneDownTheDiskIsWhatTheListSaid();
        goneDownTwice();
        whenDownTheStoreCanOnlyBeBroughtUp();
        withoutRoomNothingIsWritten();
        asManyFreeBlocksAsNeededAreEnough();
        roomIsNeededBeforeOthersAreGone();
        flushingTakesMarksToo();
        flushingMakesTheNewestRunOfLevel0();
        flushingWithoutEntriesDoesNothing();
        flushingNeedsFewerThanTwelveRuns();
        mergingTakesOneRunToo();
        mergingGoesHoweverManyRunsThereAre();
        mergingTakesOfEachKeyTheNewestEntry();
        marksAreLeftOutWithoutAGreaterRun();
        marksStayWithAGreaterRun();
        lesserRunsDoNotKeepMarks();
        levelTwoNeverKeepsMarks();
        mergedRunsAreTheNewestOfTheNextLevel();
        mergedRunsOfLevelTwoStayThere();
        mergingLeavesMemoryAndOtherRuns();
        mergingToNothingLeavesNoRun();
        DUE.end();
    }

    // "WRITES: to write a run takes a write for each of its blocks, and then one for the list, with which the run is
    // there, and others are gone; to make the list alone takes one."

    private static void aWriteForEachBlockAndOneForTheList() {
        for (Case one : WRITING) {
            RunStore store = one.made().get();
            store.limit(1000);
            one.call().accept(store);
            DUE.is(one.name() + " with limit 1000: left()", 1000 - one.writes(), store.left());
            RunStore just = one.made().get();
            just.limit(one.writes());
            one.call().accept(just);
            DUE.is(one.name() + " with just enough writes: left()", 0, just.left());
            RunStore free = one.made().get();
            one.call().accept(free);
            just.limit(-1);
            DUE.isText(one.name() + " with just enough writes: the store", Stores.told(free), Stores.told(just));
        }
    }

    // "Before each write there is a look at the LIMIT, a number of writes, or none: if it is 0, the store GOES DOWN
    // instead of writing, otherwise it becomes 1 less."

    private static void theStoreGoesDownWhenTheLimitIs0() {
        for (Case one : WRITING) {
            for (int limit = 0; limit < one.writes(); limit++) {
                RunStore store = one.made().get();
                store.limit(limit);
                String when = one.name() + " with limit " + limit;
                DUE.illegalState(when, () -> one.call().accept(store));
                DUE.is(when + ": memory()", RunStore.NONE, store.memory());
            }
        }
    }

    private static void theLimitBecomesOneLessWithEachWrite() {
        RunStore store = Stores.formatted();
        store.limit(5);
        store.put(1, 1);
        store.flush();
        DUE.is("a block and the list: left()", 3, store.left());
        store.merge(0);
        DUE.is("a block and the list again: left()", 1, store.left());
        store.format();
        DUE.is("the list alone: left()", 0, store.left());
        DUE.is("limit 0 is not down: memory()", 0, store.memory());
        DUE.is("limit 0 is not down: put(1, 1)", 1, store.put(1, 1));
        DUE.illegalState("limit 0: flush()", store::flush);
    }

    // "(A limit that is none stays so.)"

    private static void aLimitThatIsNoneStaysSo() {
        for (Case one : WRITING) {
            RunStore store = one.made().get();
            one.call().accept(store);
            DUE.is(one.name() + " without limit: left()", RunStore.NONE, store.left());
            DUE.is(one.name() + " without limit: is up", true, store.memory() != RunStore.NONE);
        }
    }

    private static void callsThatDoNotWriteDoNotLookAtTheLimit() {
        for (Case one : NOT_WRITING) {
            for (int limit = 0; limit <= 1; limit++) {
                RunStore store = one.made().get();
                store.limit(limit);
                one.call().accept(store);
                DUE.is(one.name() + ": left()", limit, store.left());
                DUE.is(one.name() + ": is up", true, store.memory() != RunStore.NONE);
            }
        }
    }

    // "When the store goes down, memory has no entries, and there is no limit any more; on the disk is what the list
    // said that was written last."

    private static void goneDownThereIsNeitherMemoryNorLimit() {
        for (Case one : WRITING) {
            RunStore store = one.made().get();
            store.limit(one.writes() - 1);
            DUE.illegalState(one.name() + " with one write too few", () -> one.call().accept(store));
            DUE.is(one.name() + " went down: left()", RunStore.NONE, store.left());
            DUE.is(one.name() + " went down: memory()", RunStore.NONE, store.memory());
            store.recover();
            DUE.is(one.name() + " went down, recover(): memory()", 0, store.memory());
            DUE.is(one.name() + " went down, recover(): left()", RunStore.NONE, store.left());
        }
    }

    private static void goneDownTheDiskIsWhatTheListSaid() {
        for (Case one : WRITING) {
            RunStore before = one.made().get();
            Stores.takeDown(before);
            String disk = Stores.toldOfDisk(before);
            for (int limit = 0; limit < one.writes(); limit++) {
                RunStore store = one.made().get();
                store.limit(limit);
                String when = one.name() + " with limit " + limit;
                DUE.illegalState(when, () -> one.call().accept(store));
                DUE.isText(when + ": the disk", disk, Stores.toldOfDisk(store));
            }
        }
    }

    private static void goneDownTwice() {
        RunStore store = Stores.formatted();
        Stores.flushKeys(store, 0, 3);
        for (int limit = 0; limit <= 2; limit++) {
            Stores.putKeys(store, 10, 8);
            store.limit(limit);
            DUE.illegalState("flush() of 2 blocks with limit " + limit, store::flush);
            DUE.is("flush() with limit " + limit + ": recover()", 1, store.recover());
            DUE.is("flush() with limit " + limit + ": size()", 3, store.size());
        }
        Stores.putKeys(store, 10, 8);
        DUE.is("flush() without limit", 8, store.flush());
        Stores.takeDown(store);
        DUE.is("flushed, went down: recover()", 2, store.recover());
        DUE.is("flushed, went down: size()", 11, store.size());
    }

    // "Being DOWN, it can only be brought up."

    private static void whenDownTheStoreCanOnlyBeBroughtUp() {
        RunStore store = downWithThreeLevels();
        DUE.illegalState("down: put(1, 1)", () -> store.put(1, 1));
        DUE.illegalState("down: remove(1)", () -> store.remove(1));
        DUE.illegalState("down: get(1)", () -> store.get(1));
        DUE.illegalState("down: has(1)", () -> store.has(1));
        DUE.illegalState("down: flush()", store::flush);
        DUE.illegalState("down: compact()", store::compact);
        DUE.illegalState("down: merge(1)", () -> store.merge(1));
        DUE.illegalState("down: seek(0)", () -> store.seek(0));
        DUE.illegalState("down: next()", store::next);
        DUE.illegalState("down: size()", store::size);
        DUE.illegalState("down: runs(1)", () -> store.runs(1));
        DUE.illegalState("down: entries(1, 0)", () -> store.entries(1, 0));
        DUE.illegalState("down: room()", store::room);
        DUE.is("down: recover()", 3, store.recover());
        Stores.takeDown(store);
        store.format();
        DUE.is("down: format(): memory()", 0, store.memory());
    }

    // "A run that is written needs as many FREE blocks (40 less those of all runs) as it takes, before any others are
    // gone; if there are fewer, there is NO ROOM, and nothing is written."

    /** Nothing is written, so the limit is not looked at: with a limit of 0, too, the store stays up. */
    private static void withoutRoomNothingIsWritten() {
        for (Case one : WITHOUT_ROOM) {
            for (int limit : NO_ROOM_LIMITS) {
                RunStore store = one.made().get();
                store.seek(0);
                store.limit(limit);
                DUE.refusesUnchanged(one.name() + " with limit " + limit, UnsupportedOperationException.class, store,
                        () -> one.call().accept(store));
            }
        }
    }

    private static void asManyFreeBlocksAsNeededAreEnough() {
        RunStore one = withElevenRunsAnd(1, 4);
        DUE.is("flush() of 4 with 1 free", 4, one.flush());
        DUE.is("flush() of 4 with 1 free: room()", 0, one.room());
        RunStore put = withElevenRunsAnd(2, 8);
        DUE.is("put(99, 1) with 2 free", 1, put.put(99, 1));
        DUE.is("put(99, 1) with 2 free: room()", 0, put.room());
        RunStore remove = withElevenRunsAnd(2, 8);
        DUE.is("remove(5) with 2 free", true, remove.remove(5));
        DUE.is("remove(5) with 2 free: room()", 0, remove.room());
        RunStore merge = Stores.withTwentyBlocksFree();
        DUE.is("merge(1) of 20 blocks with 20 free", 80, merge.merge(1));
        DUE.is("merge(2) of 20 blocks with 20 free", 80, merge.merge(2));
        DUE.is("merge(2) of 20 blocks with 20 free: room()", 20, merge.room());
        RunStore compact = withLevel2OfFourGreatRuns(10);
        DUE.is("compact() of level 2 with 10 free", 2, compact.compact());
        DUE.is("compact() of level 2 with 10 free: entries(2, 0)", 40, compact.entries(2, 0));
    }

    private static void roomIsNeededBeforeOthersAreGone() {
        RunStore store = with19FreeAndOneRunOn(1);
        DUE.noRoom("merge(1) of 20 blocks with 19 free", () -> store.merge(1));
        store.merge(0);
        DUE.noRoom("merge(1) of 2 runs that become 20 blocks with 19 free", () -> store.merge(1));
        DUE.is("both runs are there: runs(1)", 2, store.runs(1));
        DUE.is("both runs are there: room()", 19, store.room());
    }

    // "FLUSHING: the entries of memory, marks too, become a run, the newest of level 0, and memory has no entries
    // then."

    private static void flushingTakesMarksToo() {
        RunStore store = Stores.formatted();
        Stores.flushKeys(store, 0, 3);
        store.remove(0);
        store.put(1, 11);
        store.remove(50);
        DUE.is("flush() of 1 value and 2 marks", 3, store.flush());
        DUE.is("flushed: memory()", 0, store.memory());
        DUE.is("flushed: has(0)", false, store.has(0));
        DUE.is("flushed: get(1)", 11, store.get(1));
        DUE.is("flushed: get(2)", 20, store.get(2));
        DUE.is("flushed: entries(0, 0)", 3, store.entries(0, 0));
    }

    private static void flushingMakesTheNewestRunOfLevel0() {
        RunStore store = Stores.formatted();
        for (int count = 1; count <= 5; count++) {
            store.put(9, count);
            Stores.flushKeys(store, 10, count - 1);
            DUE.is("entries(0, 0) of run " + count, count, store.entries(0, 0));
            DUE.is("get(9) of run " + count, count, store.get(9));
        }
        DUE.is("entries(0, 4) of the oldest", 1, store.entries(0, 4));
    }

    // "Without entries nothing happens."

    private static void flushingWithoutEntriesDoesNothing() {
        for (int limit : NO_ROOM_LIMITS) {
            RunStore store = Stores.withoutFreeBlock();
            store.limit(limit);
            String before = Stores.told(store);
            DUE.is("flush() without entries, room or runs, limit " + limit, 0, store.flush());
            DUE.isText("flush() without entries: the store", before, Stores.told(store));
        }
    }

    // "There is no room, too, when there are 12 runs."

    private static void flushingNeedsFewerThanTwelveRuns() {
        RunStore store = Stores.formatted();
        for (int key = 0; key < 11; key++) {
            Stores.flushKeys(store, key, 1);
        }
        store.put(50, 5);
        DUE.is("flush() with 11 runs", 1, store.flush());
        store.put(51, 5);
        DUE.noRoom("flush() with 12 runs", store::flush);
        DUE.is("12 runs: room()", 28, store.room());
        Stores.putKeys(store, 60, 7);
        DUE.noRoom("put(70, 1) with 12 runs", () -> store.put(70, 1));
        DUE.noRoom("remove(70) with 12 runs", () -> store.remove(70));
        DUE.is("put(51, 6) in full memory with 12 runs", 8, store.put(51, 6));
        DUE.is("remove(51) in full memory with 12 runs", true, store.remove(51));
        store.merge(0);
        DUE.is("put(70, 1) with one run", 1, store.put(70, 1));
    }

    // "MERGING a level: all its runs (one, too) become one, however many runs there are: of each key the newest entry;
    // marks are left out if no run of a greater level is there."

    private static void mergingTakesOneRunToo() {
        RunStore store = Stores.formatted();
        Stores.flushKeys(store, 0, 5);
        for (int level = 0; level <= 2; level++) {
            DUE.is("merge(" + level + ") of one run", 5, store.merge(level));
            DUE.is("merge(" + level + ") of one run: runs there", 1, store.runs(Math.min(level + 1, 2)));
            DUE.is("merge(" + level + ") of one run: get(4)", 40, store.get(4));
            DUE.is("merge(" + level + ") of one run: room()", 38, store.room());
        }
    }

    private static void mergingGoesHoweverManyRunsThereAre() {
        RunStore twelve = Stores.withTwelveRuns();
        DUE.is("merge(0) of 12 runs", 12, twelve.merge(0));
        DUE.is("merge(0) of 12 runs: size()", 12, twelve.size());
        for (int level = 0; level <= 2; level++) {
            RunStore store = Stores.withFourRunsOnEachLevel();
            DUE.is("merge(" + level + ") with 12 runs in all", 4, store.merge(level));
            DUE.is("merge(" + level + ") with 12 runs in all: runs", 9,
                    store.runs(0) + store.runs(1) + store.runs(2));
            DUE.is("merge(" + level + ") with 12 runs in all: size()", 12, store.size());
        }
        RunStore one = Stores.formatted();
        Stores.flushKeys(one, 50, 1);
        one.merge(0);
        for (int key = 0; key < 11; key++) {
            Stores.flushKeys(one, key, 1);
        }
        DUE.is("merge(1) of one run of 12", 1, one.merge(1));
        DUE.is("merge(2) of one run of 12", 1, one.merge(2));
        DUE.is("one run of 12: get(50)", 500, one.get(50));
        DUE.is("one run of 12: runs(0)", 11, one.runs(0));
    }

    private static void mergingTakesOfEachKeyTheNewestEntry() {
        for (int level = 0; level <= 2; level++) {
            RunStore store = Stores.formatted();
            for (int run = 1; run <= 3; run++) {
                store.put(1, run);
                store.put(10 + run, run);
                store.flush();
                for (int merged = 0; merged < level; merged++) {
                    store.merge(merged);
                }
            }
            DUE.is("merge(" + level + ") of 3 runs with one key in all", 4, store.merge(level));
            DUE.is("merge(" + level + ") of 3 runs: get(1)", 3, store.get(1));
            DUE.is("merge(" + level + ") of 3 runs: get(11)", 1, store.get(11));
        }
        RunStore store = Stores.formatted();
        Stores.flushMarks(store, 5, 1);
        Stores.flushKeys(store, 5, 1);
        DUE.is("merge(0) of a value over a mark", 1, store.merge(0));
        Stores.flushMarks(store, 5, 1);
        store.merge(0);
        DUE.is("merge(1) of a mark over a value", 0, store.merge(1));
    }

    private static void marksAreLeftOutWithoutAGreaterRun() {
        RunStore store = Stores.formatted();
        Stores.flushKeys(store, 0, 2);
        Stores.flushMarks(store, 1, 2);
        DUE.is("merge(0) with marks, no greater run", 1, store.merge(0));
        DUE.is("marks left out: has(1)", false, store.has(1));
        Stores.flushMarks(store, 0, 1);
        Stores.flushKeys(store, 50, 1);
        DUE.is("merge(0) with a mark over level 1", 2, store.merge(0));
        DUE.is("merge(1) with a mark, no greater run", 1, store.merge(1));
        DUE.is("marks left out: has(0)", false, store.has(0));
        DUE.is("marks left out: entries(2, 0)", 1, store.entries(2, 0));
    }

    private static void marksStayWithAGreaterRun() {
        RunStore two = Stores.formatted();
        Stores.flushKeys(two, 0, 3);
        Stores.pushDown(two);
        Stores.flushMarks(two, 0, 2);
        DUE.is("merge(0) of marks, a run on level 2", 2, two.merge(0));
        DUE.is("marks stay on level 1: size()", 1, two.size());
        DUE.is("merge(1) of marks, a run on level 2", 2, two.merge(1));
        DUE.is("marks stay on level 2: size()", 1, two.size());
        RunStore one = Stores.formatted();
        Stores.flushKeys(one, 0, 3);
        one.merge(0);
        Stores.flushMarks(one, 2, 2);
        DUE.is("merge(0) of marks, a run on level 1", 2, one.merge(0));
        DUE.is("marks stay: entries(1, 0)", 2, one.entries(1, 0));
        DUE.is("marks stay: size()", 2, one.size());
        RunStore both = Stores.withFourRunsOnEachLevel();
        both.merge(0);
        Stores.flushMarks(both, 0, 8);
        DUE.is("merge(0) of marks, runs on levels 1 and 2", 8, both.merge(0));
        DUE.is("marks stay: size() with both levels", 4, both.size());
    }

    private static void lesserRunsDoNotKeepMarks() {
        RunStore store = Stores.formatted();
        Stores.flushKeys(store, 0, 1);
        store.merge(0);
        Stores.flushMarks(store, 0, 1);
        store.merge(0);
        Stores.flushKeys(store, 70, 1);
        store.put(71, 7);
        DUE.is("level 1 has the mark: runs(1)", 2, store.runs(1));
        DUE.is("merge(1) with runs on level 0 alone", 0, store.merge(1));
        DUE.is("merge(1) to nothing: has(0)", false, store.has(0));
        DUE.is("merge(1) to nothing: size()", 2, store.size());
    }

    private static void levelTwoNeverKeepsMarks() {
        RunStore store = Stores.formatted();
        Stores.flushKeys(store, 0, 4);
        Stores.pushDown(store);
        Stores.flushMarks(store, 1, 2);
        Stores.pushDown(store);
        Stores.flushMarks(store, 3, 1);
        store.merge(0);
        Stores.flushMarks(store, 90, 1);
        DUE.is("merge(2) with marks", 2, store.merge(2));
        DUE.is("merge(2) with marks: room()", 37, store.room());
        DUE.is("merge(2) with marks: size()", 1, store.size());
    }

    // "It becomes the newest run of the next level (of level 2: of the same), and the others are gone with the same
    // list."

    private static void mergedRunsAreTheNewestOfTheNextLevel() {
        RunStore store = Stores.withFourRunsOnEachLevel();
        store.put(0, 1);
        store.put(4, 1);
        Stores.putKeys(store, 60, 3);
        store.merge(2);
        store.flush();
        DUE.is("merge(0) of 5 runs", 9, store.merge(0));
        DUE.is("merge(0): runs(0)", 0, store.runs(0));
        DUE.is("merge(0): runs(1)", 5, store.runs(1));
        DUE.is("merge(0): entries(1, 0)", 9, store.entries(1, 0));
        DUE.is("merge(0): get(4)", 1, store.get(4));
        DUE.is("merge(1) of 5 runs", 12, store.merge(1));
        DUE.is("merge(1): runs(1)", 0, store.runs(1));
        DUE.is("merge(1): runs(2)", 2, store.runs(2));
        DUE.is("merge(1): entries(2, 0)", 12, store.entries(2, 0));
        DUE.is("merge(1): entries(2, 1)", 4, store.entries(2, 1));
        DUE.is("merge(1): get(0)", 1, store.get(0));
        DUE.is("merge(1): room()", 36, store.room());
    }

    private static void mergedRunsOfLevelTwoStayThere() {
        RunStore store = Stores.withFourRunsOnEachLevel();
        DUE.is("merge(2) of 4 runs", 4, store.merge(2));
        DUE.is("merge(2): runs(2)", 1, store.runs(2));
        DUE.is("merge(2): entries(2, 0)", 4, store.entries(2, 0));
        DUE.noSuch("merge(2): entries(2, 1)", () -> store.entries(2, 1));
        DUE.is("merge(2): room()", 31, store.room());
        DUE.is("merge(2) of one run", 4, store.merge(2));
        DUE.is("merge(2) of one run: runs(2)", 1, store.runs(2));
    }

    private static void mergingLeavesMemoryAndOtherRuns() {
        RunStore store = Stores.withFourRunsOnEachLevel();
        store.put(4, 44);
        store.remove(5);
        DUE.is("merge(1) with entries in memory", 4, store.merge(1));
        DUE.is("merge(1): memory()", 2, store.memory());
        DUE.is("merge(1): get(4) of memory", 44, store.get(4));
        DUE.is("merge(1): has(5)", false, store.has(5));
        DUE.is("merge(1): runs(0)", 4, store.runs(0));
        DUE.is("merge(1): runs(2)", 5, store.runs(2));
        Stores.takeDown(store);
        store.recover();
        DUE.is("merge(1), memory gone: get(4)", 40, store.get(4));
        DUE.is("merge(1), memory gone: get(5)", 50, store.get(5));
        DUE.is("merge(1), memory gone: get(8)", 80, store.get(8));
    }

    // "If it has no entries, there is no such run (only the list is written)."

    private static void mergingToNothingLeavesNoRun() {
        RunStore store = withMarksAlone();
        store.limit(1);
        DUE.is("merge(0) of marks alone", 0, store.merge(0));
        DUE.is("merge(0) of marks alone: left()", 0, store.left());
        DUE.is("merge(0) of marks alone: room()", 40, store.room());
        for (int level = 0; level <= 2; level++) {
            DUE.is("merge(0) of marks alone: runs(" + level + ")", 0, store.runs(level));
        }
        Stores.putKeys(store, 0, 1);
        Stores.takeDown(store);
        DUE.is("merge(0) of marks alone, then down: recover()", 0, store.recover());
        RunStore full = Stores.withoutFreeBlock();
        DUE.is("merge(2) of values and their marks", 0, full.merge(2));
        DUE.is("merge(2) to nothing: runs(2)", 0, full.runs(2));
        DUE.is("merge(2) to nothing: runs(1)", 1, full.runs(1));
        DUE.is("merge(2) to nothing: size()", 72, full.size());
        DUE.is("merge(2) to nothing: get(79)", 790, full.get(79));
    }

    /** A run of 9 entries on level 2, one of 5 on level 1, one of 1 on level 0, and 2 entries in memory. */
    private static RunStore withThreeLevels() {
        RunStore store = Stores.formatted();
        Stores.flushKeys(store, 0, 9);
        Stores.pushDown(store);
        Stores.flushKeys(store, 2, 5);
        store.merge(0);
        Stores.flushKeys(store, 3, 1);
        store.put(3, 33);
        store.remove(4);
        return store;
    }

    private static RunStore downWithThreeLevels() {
        RunStore store = withThreeLevels();
        Stores.takeDown(store);
        return store;
    }

    /** One run, and so many entries in memory, of the keys from 30 on. */
    private static RunStore withInMemory(int count) {
        RunStore store = Stores.formatted();
        Stores.flushKeys(store, 28, 4);
        Stores.putKeys(store, 30, count);
        return store;
    }

    private static RunStore withMarkInMemory() {
        RunStore store = withInMemory(0);
        store.remove(30);
        return store;
    }

    /** Four runs of marks alone on level 0. */
    private static RunStore withMarksAlone() {
        RunStore store = Stores.formatted();
        for (int key = 0; key < 4; key++) {
            Stores.flushMarks(store, key, 5);
        }
        return store;
    }

    /** Four runs of one entry each on this level. */
    private static RunStore withFourRunsOn(int level) {
        RunStore store = Stores.formatted();
        for (int key = 0; key < 4; key++) {
            Stores.flushKeys(store, key, 1);
            for (int merged = 0; merged < level; merged++) {
                store.merge(merged);
            }
        }
        return store;
    }

    private static RunStore withTwelveRunsAnd(int inMemory) {
        RunStore store = Stores.withTwelveRuns();
        Stores.putKeys(store, 50, inMemory);
        return store;
    }

    /** Eleven runs that leave so many of 0 .. 2 blocks free, and so many entries in memory, from key 80 on. */
    private static RunStore withElevenRunsAnd(int free, int inMemory) {
        RunStore store = Stores.withTwentyBlocksFree();
        for (int run = 0; run < 10; run++) {
            Stores.flushKeys(store, 80, run < free ? 4 : 8);
        }
        Stores.putKeys(store, 80, inMemory);
        return store;
    }

    /** Eleven runs on level 0, of 21 blocks: 19 are free. */
    private static RunStore with81EntriesOnLevel0() {
        RunStore store = Stores.formatted();
        for (int from = 0; from < 80; from += 8) {
            Stores.flushKeys(store, from, 8);
        }
        Stores.flushKeys(store, 80, 1);
        return store;
    }

    /** A run of 20 blocks on level 1 or 2, one of one block on level 0, an entry in memory. */
    private static RunStore with19FreeAndOneRunOn(int level) {
        RunStore store = Stores.withTwentyBlocksFree();
        if (level == 2) {
            store.merge(1);
        }
        Stores.flushKeys(store, 0, 1);
        store.put(90, 9);
        return store;
    }

    /** Four runs on level 2 that a merge makes 10 blocks of, and fewer on the others: 9 or 10 blocks are free. */
    private static RunStore withLevel2OfFourGreatRuns(int free) {
        RunStore store = Stores.formatted();
        for (int run = 0; run < 4; run++) {
            Stores.flushKeys(store, run * 10, 10);
            Stores.pushDown(store);
        }
        for (int run = 0; run < 2; run++) {
            Stores.flushKeys(store, 40, 32);
            store.merge(0);
        }
        Stores.flushKeys(store, 90, 8);
        if (free == 9) {
            Stores.flushKeys(store, 98, 1);
        }
        return store;
    }
}
