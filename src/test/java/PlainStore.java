import java.util.ArrayList;
import java.util.Collections;
import java.util.List;
import java.util.Map;
import java.util.NoSuchElementException;
import java.util.TreeMap;

/**
 * The document once more, for comparison: the disk is 40 real blocks and a list, each write is made by itself,
 * and every look at a run reads its blocks. A null value is a mark.
 */
final class PlainStore {
    /** An entry of the list: the level of a run and the blocks that it is in. */
    private record Run(int level, List<Integer> blocks) {
    }

    private final List<TreeMap<Integer, Integer>> blocks = new ArrayList<>(Collections.nCopies(40, null));
    private List<Run> list = null;
    private TreeMap<Integer, Integer> memory = null;
    private int limit = -1;
    private int cursor = -1;

    void format() {
        lookAtLimit();
        list = new ArrayList<>();
        memory = new TreeMap<>();
        cursor = -1;
    }

    int recover() {
        if (memory != null || list == null) {
            throw new IllegalStateException();
        }
        memory = new TreeMap<>();
        cursor = -1;
        return list.size();
    }

    int put(int key, int value) {
        return enter(key, value).size();
    }

    boolean remove(int key) {
        boolean before = isKey(key) && memory != null && all().containsKey(key);
        enter(key, null);
        return before;
    }

    int get(int key) {
        if (!has(key)) {
            throw new NoSuchElementException();
        }
        return all().get(key);
    }

    boolean has(int key) {
        argument(isKey(key));
        state(memory != null);
        return all().containsKey(key);
    }

    int flush() {
        state(memory != null);
        int count = memory.size();
        writeMemory();
        cursor = -1;
        return count;
    }

    int compact() {
        state(memory != null);
        int found = -1;
        for (int level = 2; level >= 0; level--) {
            found = ofLevel(level).size() >= 4 ? level : found;
        }
        if (found >= 0) {
            mergeRuns(found);
        }
        cursor = -1;
        return found;
    }

    int merge(int level) {
        argument(level >= 0 && level <= 2);
        state(memory != null);
        int count = ofLevel(level).isEmpty() ? 0 : mergeRuns(level);
        cursor = -1;
        return count;
    }

    void limit(int n) {
        argument(n >= -1 && n <= 1000);
        state(list != null);
        limit = n;
    }

    int left() {
        return limit;
    }

    boolean seek(int key) {
        argument(isKey(key));
        state(memory != null);
        Integer found = all().ceilingKey(key);
        cursor = found == null ? -1 : found;
        return found != null;
    }

    boolean next() {
        state(memory != null && cursor >= 0);
        Integer found = all().higherKey(cursor);
        cursor = found == null ? -1 : found;
        return found != null;
    }

    int key() {
        return cursor;
    }

    int value() {
        return cursor < 0 ? 0 : all().get(cursor);
    }

    int size() {
        state(memory != null);
        return all().size();
    }

    int memory() {
        return memory == null ? -1 : memory.size();
    }

    int runs(int level) {
        argument(level >= 0 && level <= 2);
        state(memory != null);
        return ofLevel(level).size();
    }

    int entries(int level, int i) {
        state(memory != null);
        List<Run> found = ofLevel(level);
        if (i < 0 || i >= found.size()) {
            throw new NoSuchElementException();
        }
        return read(found.get(i)).size();
    }

    int room() {
        state(memory != null);
        return freeBlocks().size();
    }

    private static boolean isKey(int key) {
        return key >= 0 && key <= 99;
    }

    private static void argument(boolean fine) {
        if (!fine) {
            throw new IllegalArgumentException();
        }
    }

    private static void state(boolean fine) {
        if (!fine) {
            throw new IllegalStateException();
        }
    }

    private TreeMap<Integer, Integer> enter(int key, Integer value) {
        argument(isKey(key));
        state(memory != null);
        if (!memory.containsKey(key) && memory.size() == 8) {
            writeMemory();
        }
        memory.put(key, value);
        cursor = -1;
        return memory;
    }

    private void writeMemory() {
        if (memory.isEmpty()) {
            return;
        }
        if (list.size() >= 12) {
            throw new UnsupportedOperationException();
        }
        write(memory, 0, new ArrayList<>());
        memory = new TreeMap<>();
    }

    private int mergeRuns(int level) {
        TreeMap<Integer, Integer> merged = new TreeMap<>();
        List<Run> gone = ofLevel(level);
        for (int i = gone.size() - 1; i >= 0; i--) {
            merged.putAll(read(gone.get(i)));
        }
        boolean greater = false;
        for (Run run : list) {
            greater |= run.level() > level;
        }
        if (!greater) {
            merged.values().removeIf(value -> value == null);
        }
        write(merged, level == 2 ? 2 : level + 1, gone);
        return merged.size();
    }

    private void write(TreeMap<Integer, Integer> entries, int level, List<Run> gone) {
        List<TreeMap<Integer, Integer>> cut = new ArrayList<>();
        for (Map.Entry<Integer, Integer> entry : entries.entrySet()) {
            if (cut.isEmpty() || cut.get(cut.size() - 1).size() == 4) {
                cut.add(new TreeMap<>());
            }
            cut.get(cut.size() - 1).put(entry.getKey(), entry.getValue());
        }
        List<Integer> free = freeBlocks();
        if (free.size() < cut.size()) {
            throw new UnsupportedOperationException();
        }
        Run written = new Run(level, new ArrayList<>(free.subList(0, cut.size())));
        for (int i = 0; i < cut.size(); i++) {
            lookAtLimit();
            blocks.set(free.get(i), cut.get(i));
        }
        lookAtLimit();
        list = listWith(written, gone);
    }

    private List<Run> listWith(Run written, List<Run> gone) {
        List<Run> made = new ArrayList<>();
        for (int level = 0; level <= 2; level++) {
            if (level == written.level() && !written.blocks().isEmpty()) {
                made.add(written);
            }
            for (Run run : ofLevel(level)) {
                if (!gone.contains(run)) {
                    made.add(run);
                }
            }
        }
        return made;
    }

    private void lookAtLimit() {
        if (limit == 0) {
            memory = null;
            cursor = -1;
            limit = -1;
            throw new IllegalStateException();
        }
        limit = limit > 0 ? limit - 1 : limit;
    }

    private List<Run> ofLevel(int level) {
        List<Run> found = new ArrayList<>();
        for (Run run : list) {
            if (run.level() == level) {
                found.add(run);
            }
        }
        return found;
    }

    private TreeMap<Integer, Integer> read(Run run) {
        TreeMap<Integer, Integer> entries = new TreeMap<>();
        for (int block : run.blocks()) {
            entries.putAll(blocks.get(block));
        }
        return entries;
    }

    private List<Integer> freeBlocks() {
        List<Integer> free = new ArrayList<>();
        for (int block = 0; block < 40; block++) {
            free.add(block);
        }
        for (Run run : list) {
            free.removeAll(run.blocks());
        }
        return free;
    }

    /** The keys that are there, with their values: the oldest entries first, newer ones over them. */
    private TreeMap<Integer, Integer> all() {
        TreeMap<Integer, Integer> there = new TreeMap<>();
        for (int i = list.size() - 1; i >= 0; i--) {
            there.putAll(read(list.get(i)));
        }
        there.putAll(memory);
        there.values().removeIf(value -> value == null);
        return there;
    }
}
