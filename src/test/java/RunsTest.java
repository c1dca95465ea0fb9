/**
 * Promises 8 to 10 and 19 to 21: flush, compact, merge, runs, entries, room. The sentences of a promise stand over the
 * tests of them.
 */
public final class RunsTest {
    private static final Due DUE = new Due("RunsTest");

    public static void main(String[] args) {
        promise8FlushAnswersTheEntriesOfTheRun();
        promise8FlushWithoutEntriesDoesNothing();
        promise8FlushNeedsOneOfTwelveRuns();
        promise8FlushNeedsFreeBlocks();
        promise9CompactMergesTheLeastLevelWithFourRuns();
        promise9CompactMergesLevelTwoInPlace();
        promise9CompactWithoutRoomThrows();
        promise9CompactOnEachLevelNeedsFourRuns();
        promise9CompactTakesTheLeastOfSeveralLevels();
        promise9CompactToNothingAnswersTheLevel();
        promise10MergeTakesTheNewestEntries();
        promise10MergeBecomesTheNewestOfTheNextLevel();
        promise10MergeOfOneRunMovesIt();
        promise10MergeKeepsMarksWhileAGreaterLevelHasARun();
        promise10MergeToNothingWritesTheListAlone();
        promise10MergeOfNoRunsDoesNothing();
        promise10MergeNeedsRoomBeforeOthersAreGone();
        promise10MergeWorksWithTwelveRuns();
        promise10MergeLeavesMemoryAndOtherLevels();
        promise10MergeRefusesWrongLevels();
        promise19RunsCountsEachLevel();
        promise19RunsAtTheEdges();
        promise20EntriesFromTheNewestOn();
        promise20EntriesAtTheEdges();
        promise21RoomCountsBlocksOfFour();
        DUE.end();
    }

    // "FLUSHES." and "Answers how many entries (marks, too) the run has; 0 when there were none."

    private static void promise8FlushAnswersTheEntriesOfTheRun() {
        RunStore store = Stores.formatted();
        Stores.putKeys(store, 10, 2);
        store.remove(50);
        store.remove(11);
        DUE.is("flush() of 1 value and 2 marks", 3, store.flush());
        DUE.is("flushed: memory()", 0, store.memory());
        DUE.is("flushed: runs(0)", 1, store.runs(0));
        DUE.is("flushed: entries(0, 0)", 3, store.entries(0, 0));
        DUE.is("flushed: get(10)", 100, store.get(10));
        DUE.is("flushed: has(11)", false, store.has(11));
        Stores.putKeys(store, 0, 8);
        DUE.is("flush() of 8", 8, store.flush());
        DUE.is("flush() of 8: entries(0, 0)", 8, store.entries(0, 0));
        DUE.is("flush() of 8: entries(0, 1)", 3, store.entries(0, 1));
    }

    private static void promise8FlushWithoutEntriesDoesNothing() {
        RunStore store = Stores.withTwelveRuns();
        store.limit(0);
        DUE.is("flush() without entries, with 12 runs and limit 0", 0, store.flush());
        DUE.is("flush() without entries: left()", 0, store.left());
        DUE.is("flush() without entries: runs(0)", 12, store.runs(0));
    }

    private static void promise8FlushNeedsOneOfTwelveRuns() {
        RunStore store = Stores.withTwelveRuns();
        store.put(60, 6);
        DUE.noRoom("flush() with 12 runs", store::flush);
        DUE.is("flush() with 12 runs: memory()", 1, store.memory());
        DUE.is("flush() with 12 runs: get(60)", 6, store.get(60));
        DUE.is("flush() with 12 runs: room()", 28, store.room());
        store.merge(0);
        Stores.flushKeys(store, 60, 1);
        for (int key = 61; key < 71; key++) {
            Stores.flushKeys(store, key, 1);
        }
        store.put(80, 8);
        DUE.noRoom("flush() with 12 runs on two levels", store::flush);
        DUE.is("12 runs on two levels: runs(0)", 11, store.runs(0));
        DUE.is("12 runs on two levels: runs(1)", 1, store.runs(1));
    }

    private static void promise8FlushNeedsFreeBlocks() {
        RunStore store = Stores.withOneBlockFree();
        DUE.is("one block free: room()", 1, store.room());
        DUE.is("one block free: runs", 11, store.runs(0) + store.runs(1));
        DUE.noRoom("flush() of 2 blocks with one free", store::flush);
        DUE.is("flush() of 2 blocks with one free: memory()", 8, store.memory());
        DUE.is("flush() of 2 blocks with one free: room()", 1, store.room());
        RunStore just = Stores.withTwentyBlocksFree();
        for (int i = 0; i < 10; i++) {
            Stores.putKeys(just, 80, 8);
            DUE.is("flush() of the last blocks", 8, just.flush());
        }
        DUE.is("all blocks taken: room()", 0, just.room());
        just.put(1, 1);
        DUE.noRoom("flush() without a free block", just::flush);
    }

    // "MERGES the least level that has more than 3 runs." and "Answers its number; NONE when there is none."

    private static void promise9CompactMergesTheLeastLevelWithFourRuns() {
        RunStore store = Stores.formatted();
        for (int round = 0; round < 4; round++) {
            for (int key = 0; key < 3; key++) {
                Stores.flushKeys(store, round * 4 + key, 1);
            }
            DUE.is("compact() with 3 runs", RunStore.NONE, store.compact());
            DUE.is("compact() with 3 runs: runs(0)", 3, store.runs(0));
            Stores.flushKeys(store, round * 4 + 3, 1);
            DUE.is("compact() with 4 runs", 0, store.compact());
            DUE.is("compact() with 4 runs: runs(0)", 0, store.runs(0));
            DUE.is("compact() with 4 runs: runs(1)", round + 1, store.runs(1));
        }
        for (int key = 40; key < 44; key++) {
            Stores.flushKeys(store, key, 1);
        }
        DUE.is("compact() with 4 runs on levels 0 and 1", 0, store.compact());
        DUE.is("compact() with 5 runs on level 1", 1, store.compact());
        DUE.is("compacted: runs(2)", 1, store.runs(2));
        DUE.is("compacted: entries(2, 0)", 20, store.entries(2, 0));
        DUE.is("compact() with nothing to do", RunStore.NONE, store.compact());
    }

    private static void promise9CompactMergesLevelTwoInPlace() {
        RunStore store = Stores.formatted();
        for (int i = 0; i < 4; i++) {
            store.put(7, i);
            Stores.flushKeys(store, 10 + i, 1);
            store.merge(0);
            store.merge(1);
        }
        DUE.is("level 2: runs(2)", 4, store.runs(2));
        DUE.is("compact() of level 2", 2, store.compact());
        DUE.is("compact() of level 2: runs(2)", 1, store.runs(2));
        DUE.is("compact() of level 2: entries(2, 0)", 5, store.entries(2, 0));
        DUE.is("compact() of level 2: get(7)", 3, store.get(7));
    }

    private static void promise9CompactWithoutRoomThrows() {
        RunStore store = Stores.withTwentyBlocksFree();
        store.merge(1);
        for (int from = 0; from < 80; from += 8) {
            Stores.flushKeys(store, from, 8);
        }
        store.seek(0);
        DUE.noRoom("compact() without room", store::compact);
        DUE.is("compact() without room: runs(0)", 10, store.runs(0));
        DUE.is("compact() without room: key()", 0, store.key());
    }

    private static void promise9CompactOnEachLevelNeedsFourRuns() {
        for (int level = 0; level <= 2; level++) {
            RunStore store = Stores.formatted();
            for (int run = 1; run <= 4; run++) {
                DUE.is("compact() with " + (run - 1) + " runs on level " + level, RunStore.NONE, store.compact());
                DUE.is("compact() of nothing: runs(" + level + ")", run - 1, store.runs(level));
                Stores.flushKeys(store, run, 1);
                for (int merged = 0; merged < level; merged++) {
                    store.merge(merged);
                }
            }
            DUE.is("compact() with 4 runs on level " + level, level, store.compact());
            DUE.is("compact() with 4 runs: runs(" + level + ")", level == 2 ? 1 : 0, store.runs(level));
        }
    }

    private static void promise9CompactTakesTheLeastOfSeveralLevels() {
        RunStore store = Stores.withFourRunsOnEachLevel();
        DUE.is("compact() with 4 runs on each level", 0, store.compact());
        DUE.is("compact() then", 1, store.compact());
        DUE.is("compact() once more: runs(2)", 5, store.runs(2));
        DUE.is("compact() once more", 2, store.compact());
        DUE.is("compact() at last", RunStore.NONE, store.compact());
        DUE.is("all compacted: runs(2)", 1, store.runs(2));
        DUE.is("all compacted: entries(2, 0)", 12, store.entries(2, 0));
        RunStore down = Stores.withFourRunsOnEachLevel();
        down.limit(0);
        DUE.illegalState("compact() of level 0 with limit 0", down::compact);
        down.recover();
        DUE.is("compact() went down: runs(1)", 4, down.runs(1));
    }

    private static void promise9CompactToNothingAnswersTheLevel() {
        RunStore marks = Stores.formatted();
        for (int run = 0; run < 4; run++) {
            Stores.flushMarks(marks, run, 1);
        }
        DUE.is("compact() of marks alone", 0, marks.compact());
        DUE.is("compact() of marks alone: room()", 40, marks.room());
        for (int level = 1; level <= 2; level++) {
            RunStore store = Stores.formatted();
            Stores.flushKeys(store, 0, 1);
            for (int run = 0; run < 4; run++) {
                for (int merged = 0; merged < level; merged++) {
                    store.merge(merged);
                }
                if (run < 3) {
                    Stores.flushMarks(store, run, 1);
                }
            }
            DUE.is("a value and marks: runs(" + level + ")", 4, store.runs(level));
            DUE.is("compact() to nothing", level, store.compact());
            DUE.is("compact() to nothing: room()", 40, store.room());
            DUE.is("compact() to nothing: has(0)", false, store.has(0));
        }
    }

    // "MERGES this level, if it has a run." and "Answers how many entries the new run has; 0 when the level has no run
    // (nothing happens) or it has none."

    private static void promise10MergeTakesTheNewestEntries() {
        RunStore store = Stores.formatted();
        store.put(1, 1);
        store.put(2, 1);
        store.put(3, 1);
        store.flush();
        store.put(2, 2);
        store.remove(3);
        store.flush();
        store.put(2, 3);
        store.flush();
        DUE.is("merge(0)", 2, store.merge(0));
        DUE.is("merged: get(1)", 1, store.get(1));
        DUE.is("merged: get(2)", 3, store.get(2));
        DUE.is("merged: has(3)", false, store.has(3));
        DUE.is("merged: size()", 2, store.size());
    }

    private static void promise10MergeBecomesTheNewestOfTheNextLevel() {
        RunStore store = Stores.formatted();
        for (int i = 1; i <= 3; i++) {
            store.put(8, i);
            Stores.flushKeys(store, 20, i);
            store.merge(0);
        }
        DUE.is("level 1: runs(1)", 3, store.runs(1));
        DUE.is("level 1: entries(1, 0)", 4, store.entries(1, 0));
        DUE.is("level 1: entries(1, 1)", 3, store.entries(1, 1));
        DUE.is("level 1: entries(1, 2)", 2, store.entries(1, 2));
        DUE.is("level 1: get(8)", 3, store.get(8));
        DUE.is("merge(1)", 4, store.merge(1));
        store.put(8, 9);
        store.flush();
        store.merge(0);
        DUE.is("merge(1) on top of level 2", 1, store.merge(1));
        DUE.is("level 2: entries(2, 0)", 1, store.entries(2, 0));
        DUE.is("level 2: entries(2, 1)", 4, store.entries(2, 1));
        DUE.is("level 2: get(8)", 9, store.get(8));
        DUE.is("merge(2)", 4, store.merge(2));
        DUE.is("merge(2): runs(2)", 1, store.runs(2));
        DUE.is("merge(2): get(8)", 9, store.get(8));
    }

    private static void promise10MergeOfOneRunMovesIt() {
        RunStore store = Stores.formatted();
        Stores.flushKeys(store, 0, 5);
        store.limit(9);
        DUE.is("merge(0) of one run", 5, store.merge(0));
        DUE.is("merge(1) of one run", 5, store.merge(1));
        DUE.is("merge(2) of one run", 5, store.merge(2));
        DUE.is("three merges of 2 blocks: left()", 0, store.left());
        DUE.is("moved: runs(0) and runs(1)", 0, store.runs(0) + store.runs(1));
        DUE.is("moved: runs(2)", 1, store.runs(2));
    }

    private static void promise10MergeKeepsMarksWhileAGreaterLevelHasARun() {
        RunStore store = Stores.formatted();
        Stores.flushKeys(store, 0, 3);
        store.merge(0);
        store.merge(1);
        store.remove(0);
        store.remove(50);
        store.flush();
        DUE.is("merge(0) over a run on level 2", 2, store.merge(0));
        DUE.is("marks kept: has(0)", false, store.has(0));
        store.remove(1);
        store.flush();
        DUE.is("merge(0) over runs on levels 1 and 2", 1, store.merge(0));
        store.put(70, 7);
        store.flush();
        DUE.is("merge(1) over a run on level 2", 3, store.merge(1));
        DUE.is("merge(2) leaves out all marks", 1, store.merge(2));
        DUE.is("marks left out: get(2)", 20, store.get(2));
        DUE.is("marks left out: size()", 2, store.size());
        RunStore other = Stores.formatted();
        other.remove(5);
        Stores.flushKeys(other, 6, 1);
        DUE.is("merge(0) without greater runs", 1, other.merge(0));
        other.remove(6);
        other.flush();
        DUE.is("merge(1) with a lesser run alone", 1, other.merge(1));
        DUE.is("merge(0) of a mark over level 2", 1, other.merge(0));
    }

    private static void promise10MergeToNothingWritesTheListAlone() {
        RunStore store = Stores.formatted();
        store.remove(5);
        store.flush();
        store.limit(1);
        DUE.is("merge(0) of a mark alone", 0, store.merge(0));
        DUE.is("merged to nothing: left()", 0, store.left());
        DUE.is("merged to nothing: runs(0)", 0, store.runs(0));
        DUE.is("merged to nothing: runs(1)", 0, store.runs(1));
        DUE.is("merged to nothing: room()", 40, store.room());
        store.limit(-1);
        store.remove(5);
        store.flush();
        store.limit(0);
        DUE.illegalState("merge(0) of a mark alone with limit 0", () -> store.merge(0));
        DUE.is("merge went down: recover()", 1, store.recover());
        RunStore full = Stores.withTwentyBlocksFree();
        full.merge(1);
        for (int from = 0; from < 80; from += 8) {
            for (int key = from; key < from + 8; key++) {
                full.remove(key);
            }
            full.flush();
        }
        DUE.is("full of marks: room()", 0, full.room());
        DUE.noRoom("merge(0) of marks that are kept", () -> full.merge(0));
        DUE.noRoom("merge(2) without a free block", () -> full.merge(2));
    }

    private static void promise10MergeOfNoRunsDoesNothing() {
        RunStore store = Stores.formatted();
        store.limit(0);
        for (int level = 0; level < 3; level++) {
            DUE.is("merge(" + level + ") of no runs", 0, store.merge(level));
        }
        DUE.is("merge of no runs: left()", 0, store.left());
        DUE.is("merge of no runs: memory()", 0, store.memory());
    }

    private static void promise10MergeNeedsRoomBeforeOthersAreGone() {
        RunStore store = Stores.withTwentyBlocksFree();
        DUE.is("merge(1) of 20 blocks with 20 free", 80, store.merge(1));
        Stores.flushKeys(store, 0, 1);
        store.seek(3);
        DUE.noRoom("merge(2) of 20 blocks with 19 free", () -> store.merge(2));
        DUE.is("merge without room: runs(2)", 1, store.runs(2));
        DUE.is("merge without room: key()", 3, store.key());
        DUE.is("merge without room: room()", 19, store.room());
        DUE.is("merge(0) of 1 block with 19 free", 1, store.merge(0));
    }

    private static void promise10MergeWorksWithTwelveRuns() {
        RunStore store = Stores.formatted();
        Stores.flushKeys(store, 50, 1);
        store.merge(0);
        for (int key = 0; key < 11; key++) {
            Stores.flushKeys(store, key, 1);
        }
        DUE.is("merge(1) of one run with 12 runs", 1, store.merge(1));
        DUE.is("12 runs: runs(2)", 1, store.runs(2));
        DUE.is("merge(2) of one run with 12 runs", 1, store.merge(2));
        DUE.is("12 runs: size()", 12, store.size());
        for (int key = 0; key < 11; key++) {
            DUE.is("12 runs: get(" + key + ")", key * 10, store.get(key));
        }
        DUE.is("12 runs: get(50)", 500, store.get(50));
        DUE.is("merge(0) of 11 runs with 12 runs", 11, store.merge(0));
    }

    private static void promise10MergeLeavesMemoryAndOtherLevels() {
        RunStore store = Stores.formatted();
        Stores.flushKeys(store, 0, 2);
        store.merge(0);
        Stores.flushKeys(store, 1, 3);
        store.put(1, 99);
        store.merge(1);
        DUE.is("merge(1): memory()", 1, store.memory());
        DUE.is("merge(1): runs(0)", 1, store.runs(0));
        DUE.is("merge(1): entries(0, 0)", 3, store.entries(0, 0));
        DUE.is("merge(1): get(1)", 99, store.get(1));
        DUE.is("merge(1): get(3)", 30, store.get(3));
    }

    // "IllegalArgumentException when level is not 0 .. 2."

    private static void promise10MergeRefusesWrongLevels() {
        RunStore store = Stores.formatted();
        Stores.flushKeys(store, 0, 2);
        DUE.illegalArgument("merge(-1)", () -> store.merge(-1));
        DUE.illegalArgument("merge(3)", () -> store.merge(3));
        DUE.illegalArgument("merge(least)", () -> store.merge(Integer.MIN_VALUE));
        DUE.illegalArgument("merge(greatest)", () -> store.merge(Integer.MAX_VALUE));
        DUE.is("merge refused: runs(0)", 1, store.runs(0));
    }

    // "How many runs a level has." and "IllegalArgumentException when level is not 0 .. 2."

    private static void promise19RunsCountsEachLevel() {
        RunStore store = Stores.formatted();
        for (int round = 0; round < 3; round++) {
            Stores.flushKeys(store, round, 1);
            store.merge(0);
            store.merge(1);
        }
        for (int round = 0; round < 2; round++) {
            Stores.flushKeys(store, round, 1);
            store.merge(0);
        }
        Stores.flushKeys(store, 0, 1);
        DUE.is("runs(0)", 1, store.runs(0));
        DUE.is("runs(1)", 2, store.runs(1));
        DUE.is("runs(2)", 3, store.runs(2));
        DUE.illegalArgument("runs(-1)", () -> store.runs(-1));
        DUE.illegalArgument("runs(3)", () -> store.runs(3));
        DUE.illegalArgument("runs(least)", () -> store.runs(Integer.MIN_VALUE));
    }

    private static void promise19RunsAtTheEdges() {
        RunStore store = Stores.formatted();
        for (int level = 0; level <= 2; level++) {
            DUE.is("no runs: runs(" + level + ")", 0, store.runs(level));
        }
        RunStore twelve = Stores.withTwelveRuns();
        DUE.is("12 runs: runs(0)", 12, twelve.runs(0));
        DUE.is("12 runs: runs(1)", 0, twelve.runs(1));
        DUE.illegalArgument("runs(greatest)", () -> twelve.runs(Integer.MAX_VALUE));
    }

    // "How many entries run i of a level, from the newest, 0, on has." and "NoSuchElementException when there is none
    // such (nor such a level)."

    private static void promise20EntriesFromTheNewestOn() {
        RunStore store = Stores.formatted();
        for (int count = 1; count <= 5; count++) {
            Stores.flushKeys(store, 0, count);
        }
        for (int i = 0; i < 5; i++) {
            DUE.is("entries(0, " + i + ")", 5 - i, store.entries(0, i));
        }
        DUE.noSuch("entries(0, 5)", () -> store.entries(0, 5));
        DUE.noSuch("entries(0, -1)", () -> store.entries(0, -1));
        DUE.noSuch("entries(0, greatest)", () -> store.entries(0, Integer.MAX_VALUE));
        DUE.noSuch("entries(0, least)", () -> store.entries(0, Integer.MIN_VALUE));
        DUE.noSuch("entries(1, 0)", () -> store.entries(1, 0));
        DUE.noSuch("entries(-1, 0)", () -> store.entries(-1, 0));
        DUE.noSuch("entries(3, 0)", () -> store.entries(3, 0));
        DUE.noSuch("entries(greatest, 0)", () -> store.entries(Integer.MAX_VALUE, 0));
        store.merge(0);
        DUE.noSuch("entries(0, 0) after merge", () -> store.entries(0, 0));
        DUE.is("entries(1, 0) after merge", 5, store.entries(1, 0));
    }

    private static void promise20EntriesAtTheEdges() {
        RunStore store = Stores.withFourRunsOnEachLevel();
        for (int level = 0; level <= 2; level++) {
            int at = level;
            DUE.is("entries(" + at + ", 0)", 1, store.entries(at, 0));
            DUE.is("entries(" + at + ", 3)", 1, store.entries(at, 3));
            DUE.noSuch("entries(" + at + ", 4)", () -> store.entries(at, 4));
            DUE.noSuch("entries(" + at + ", -1)", () -> store.entries(at, -1));
            DUE.noSuch("entries(" + at + ", greatest)", () -> store.entries(at, Integer.MAX_VALUE));
        }
        DUE.noSuch("entries(-1, 4)", () -> store.entries(-1, 4));
        DUE.noSuch("entries(3, -1)", () -> store.entries(3, -1));
        DUE.noSuch("entries(least, least)", () -> store.entries(Integer.MIN_VALUE, Integer.MIN_VALUE));
        RunStore twelve = Stores.withTwelveRuns();
        DUE.is("entries(0, 11) of 12 runs", 1, twelve.entries(0, 11));
        DUE.noSuch("entries(0, 12) of 12 runs", () -> twelve.entries(0, 12));
        RunStore great = Stores.withTwentyBlocksFree();
        DUE.is("entries(1, 0) of the greatest run", 80, great.entries(1, 0));
        DUE.noSuch("entries(0, 0) of a level without runs", () -> great.entries(0, 0));
    }

    // "How many blocks are free."

    private static void promise21RoomCountsBlocksOfFour() {
        RunStore store = Stores.formatted();
        DUE.is("room() at first", 40, store.room());
        int free = 40;
        int[] counts = {1, 4, 5, 8};
        int[] blocks = {1, 1, 2, 2};
        for (int i = 0; i < counts.length; i++) {
            Stores.flushKeys(store, 10 * i, counts[i]);
            free -= blocks[i];
            DUE.is("room() after a run of " + counts[i], free, store.room());
        }
        Stores.putKeys(store, 90, 3);
        DUE.is("room() with entries in memory", free, store.room());
        store.merge(0);
        DUE.is("room() after a merge to 18", 35, store.room());
        store.format();
        DUE.is("room() after format", 40, store.room());
        DUE.is("room() of a full disk", 0, Stores.withoutFreeBlock().room());
    }
}
