import java.util.ArrayList;
import java.util.List;
import java.util.NoSuchElementException;
import java.util.function.Function;

/**
 * The document's sections 'What it is' and 'Not promised', and the example of README.md. The sentences of a section
 * stand over the tests of them.
 */
public final class OverviewTest {
    private static final Due DUE = new Due("OverviewTest");

    private static final int ENOUGH_WRITES = 1000;
    private static final int ROUNDS = 6;
    private static final int CALLS_A_ROUND = 14;
    private static final int CALLS_BEFORE_FIRST_FORMAT = ROUNDS * CALLS_A_ROUND + 2;

    public static void main(String[] args) {
        valuesAreKeptUnderKeysInMemoryAndOnTheDisk();
        whatIsPutIsGatheredInMemory();
        runsAreNeverChanged();
        runsAreMergedIntoGreaterOnes();
        wheneverItGoesDownItComesUpWithWhatWasWrittenWhole();
        the512thCallIsAnsweredToo();
        objectsShareNothing();
        theSameCallsGiveTheSameAnswers();
        theExampleOfTheReadme();
        DUE.end();
    }

    // "Keeps values under keys in memory and on a disk of blocks: what is put is gathered in memory and written out in
    // sorted runs that are never changed; runs are merged into greater ones; and whenever it goes down, in the middle
    // of whatever, it comes up again with just what was written whole."

    private static void valuesAreKeptUnderKeysInMemoryAndOnTheDisk() {
        RunStore store = Stores.formatted();
        Stores.putKeys(store, 0, 40);
        DUE.is("40 keys put: memory()", 8, store.memory());
        DUE.is("40 keys put: runs(0)", 4, store.runs(0));
        DUE.is("40 keys put: size()", 40, store.size());
        for (int key = 0; key < 40; key++) {
            DUE.is("40 keys put: get(" + key + ")", key * 10, store.get(key));
        }
    }

    private static void whatIsPutIsGatheredInMemory() {
        RunStore store = Stores.formatted();
        store.limit(0);
        for (int count = 1; count <= 8; count++) {
            DUE.is("put " + count + " without a write", count, store.put(count, count));
        }
        DUE.is("8 puts: room()", 40, store.room());
        DUE.is("8 puts: size()", 8, store.size());
    }

    private static void runsAreNeverChanged() {
        RunStore store = Stores.formatted();
        Stores.flushKeys(store, 0, 6);
        store.put(2, -2);
        store.remove(3);
        store.put(50, -50);
        DUE.is("keys of the run put again: entries(0, 0)", 6, store.entries(0, 0));
        DUE.is("keys of the run put again: room()", 38, store.room());
        store.flush();
        DUE.is("a newer run: entries(0, 1)", 6, store.entries(0, 1));
        store.remove(4);
        store.limit(1);
        DUE.illegalState("flush() with limit 1", store::flush);
        store.recover();
        DUE.is("get(2) of the newer run", -2, store.get(2));
        DUE.is("has(3) with the newer run's mark", false, store.has(3));
        DUE.is("get(4) of the older run", 40, store.get(4));
        DUE.is("entries(0, 1) of the older run", 6, store.entries(0, 1));
    }

    private static void runsAreMergedIntoGreaterOnes() {
        RunStore store = Stores.formatted();
        Stores.putKeys(store, 0, 40);
        DUE.is("compact() of 4 runs of 8", 0, store.compact());
        DUE.is("4 runs of 8 merged: runs(0)", 0, store.runs(0));
        DUE.is("4 runs of 8 merged: runs(1)", 1, store.runs(1));
        DUE.is("4 runs of 8 merged: entries(1, 0)", 32, store.entries(1, 0));
        DUE.is("4 runs of 8 merged: size()", 40, store.size());
    }

    private static void wheneverItGoesDownItComesUpWithWhatWasWrittenWhole() {
        List<Function<RunStore, Object>> calls = callsOfAllKinds();
        List<Object> answers = answersTo(calls);
        List<String> disks = disksAfterEach(calls);
        int[] written = writesAfterEach(calls);
        DUE.is("the calls write often enough", true, written[calls.size()] > 60);
        for (int limit = 0; limit < written[calls.size()]; limit++) {
            RunStore store = Stores.formatted();
            store.limit(limit);
            int call = 0;
            while (written[call + 1] <= limit) {
                DUE.isText("limit " + limit + ": call " + call, answers.get(call).toString(),
                        calls.get(call).apply(store).toString());
                call++;
            }
            int last = call;
            DUE.illegalState("limit " + limit + ": call " + last, () -> calls.get(last).apply(store));
            DUE.is("limit " + limit + ": memory()", RunStore.NONE, store.memory());
            DUE.isText("limit " + limit + ": the disk", disks.get(last), Stores.toldOfDisk(store));
        }
    }

    private static List<Object> answersTo(List<Function<RunStore, Object>> calls) {
        RunStore store = Stores.formatted();
        List<Object> answers = new ArrayList<>();
        for (Function<RunStore, Object> call : calls) {
            answers.add(call.apply(store));
        }
        return answers;
    }

    private static List<String> disksAfterEach(List<Function<RunStore, Object>> calls) {
        List<String> disks = new ArrayList<>();
        for (int count = 0; count <= calls.size(); count++) {
            RunStore store = Stores.formatted();
            playFirst(count, calls, store);
            Stores.takeDown(store);
            disks.add(Stores.toldOfDisk(store));
        }
        return disks;
    }

    private static int[] writesAfterEach(List<Function<RunStore, Object>> calls) {
        int[] written = new int[calls.size() + 1];
        RunStore store = Stores.formatted();
        store.limit(ENOUGH_WRITES);
        for (int call = 0; call < calls.size(); call++) {
            calls.get(call).apply(store);
            written[call + 1] = ENOUGH_WRITES - store.left();
        }
        return written;
    }

    private static void playFirst(int count, List<Function<RunStore, Object>> calls, RunStore store) {
        for (int call = 0; call < count; call++) {
            calls.get(call).apply(store);
        }
    }

    /** Puts, removes, flushes and merges of all levels, a merge to nothing and two formats: none of them throws. */
    private static List<Function<RunStore, Object>> callsOfAllKinds() {
        List<Function<RunStore, Object>> calls = new ArrayList<>();
        for (int round = 0; round < ROUNDS; round++) {
            addPuts(calls, round * 7, 10);
            int removed = round * 7 + 3;
            calls.add(store -> store.remove(removed));
            calls.add(RunStore::flush);
            calls.add(RunStore::compact);
            int level = round % 3;
            calls.add(store -> store.merge(level));
        }
        calls.add(store -> store.merge(1));
        calls.add(store -> store.merge(2));
        calls.add(OverviewTest::formatAnswering);
        addRemoves(calls, 9);
        calls.add(store -> store.merge(0));
        addPuts(calls, 90, 9);
        calls.add(OverviewTest::formatAnswering);
        return calls;
    }

    private static void addPuts(List<Function<RunStore, Object>> calls, int from, int count) {
        for (int key = from; key < from + count; key++) {
            int put = key;
            calls.add(store -> store.put(put, put * 10));
        }
    }

    private static void addRemoves(List<Function<RunStore, Object>> calls, int count) {
        for (int key = 0; key < count; key++) {
            int removed = key;
            calls.add(store -> store.remove(removed));
        }
    }

    private static Object formatAnswering(RunStore store) {
        store.format();
        return "done";
    }

    // "An object is used for at most 512 calls after it has been made; what later calls answer is free."

    private static void the512thCallIsAnsweredToo() {
        RunStore store = new RunStore();
        store.format();
        for (int call = 2; call < 512; call++) {
            if (call % 17 < 3) {
                store.merge(call % 17);
            } else {
                store.put(call % 20, call);
            }
        }
        DUE.is("call 512: get(9), put by call 509", 509, store.get(9));
    }

    // "How the state is held inside the object is free, as are the speed of each call, the text of toString and the
    // behaviour of equals and hashCode." and "Use of one object from several threads at once is not promised to be
    // safe." and "Nothing is promised beyond the answers and state changes described above, and nothing about an object
    // after its 512th call."

    /** However its state is held: a call on one object is no state change of another. */
    private static void objectsShareNothing() {
        List<Function<RunStore, Object>> calls = callsOfAllKinds();
        int most = CALLS_BEFORE_FIRST_FORMAT;
        for (int behind = 0; behind <= most; behind += 9) {
            // Told before, since a store made later would hide what it shares with these.
            String wantFirst = toldAfter(most, calls);
            String wantSecond = toldAfter(most - behind, calls);
            RunStore first = Stores.formatted();
            RunStore second = Stores.formatted();
            for (int call = 0; call < most; call++) {
                calls.get(call).apply(first);
                if (call >= behind) {
                    calls.get(call - behind).apply(second);
                }
            }
            DUE.isText("a store, another " + behind + " calls behind", wantFirst, Stores.told(first));
            DUE.isText("a store " + behind + " calls behind", wantSecond, Stores.told(second));
            first.seek(0);
            first.limit(7);
            DUE.isText("a store, another with cursor and limit", wantSecond, Stores.told(second));
            Stores.takeDown(first);
            DUE.isText("a store, another went down", wantSecond, Stores.told(second));
        }
    }

    private static String toldAfter(int count, List<Function<RunStore, Object>> calls) {
        RunStore store = Stores.formatted();
        playFirst(count, calls, store);
        return Stores.told(store);
    }

    private static void theSameCallsGiveTheSameAnswers() {
        List<Function<RunStore, Object>> calls = callsOfAllKinds();
        DUE.isText("the same calls again", answersTo(calls).toString(), answersTo(calls).toString());
    }

    private static void theExampleOfTheReadme() {
        RunStore store = new RunStore();
        DUE.illegalState("README: size() of a new store", store::size);
        store.format();
        DUE.is("README: put(5, 50)", 1, store.put(5, 50));
        DUE.is("README: flush()", 1, store.flush());
        DUE.is("README: put(6, 60)", 1, store.put(6, 60));
        store.limit(1);
        DUE.illegalState("README: flush() with one write", store::flush);
        DUE.is("README: recover()", 1, store.recover());
        DUE.is("README: get(5)", 50, store.get(5));
        DUE.is("README: has(6)", false, store.has(6));
        DUE.is("README: put(7, 70)", 1, store.put(7, 70));
        DUE.is("README: remove(5)", true, store.remove(5));
        DUE.throwsOf("README: get(5), removed", NoSuchElementException.class, () -> store.get(5));
        StringBuilder walked = new StringBuilder();
        for (boolean there = store.seek(0); there; there = store.next()) {
            walked.append(store.key()).append(' ').append(store.value()).append(';');
        }
        DUE.isText("README: the walk", "7 70;", walked.toString());
    }
}
