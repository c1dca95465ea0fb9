import java.util.Map;
import java.util.TreeMap;

/** All promises: long runs of calls, the same each time, on RunStore and on PlainStore, answer against answer. */
public final class ModelTest {
    private static final int RUNS = 3000;
    private static final int CALLS = 400;

    private static final int PUT = 0;
    private static final int REMOVE = 1;
    private static final int FLUSH = 2;
    private static final int COMPACT = 3;
    private static final int MERGE = 4;
    private static final int LIMIT = 5;
    private static final int SEEK = 6;
    private static final int NEXT = 7;
    private static final int FORMAT = 8;
    private static final int RECOVER = 9;
    private static final int LOOK = 10;

    /** How often each of the calls above comes in a run of each kind. */
    private static final int[][] WEIGHTS = {
        {30, 15, 8, 4, 8, 4, 6, 10, 1, 4, 20}, // of everything
        {30, 10, 30, 1, 2, 1, 4, 4, 0, 4, 12}, // many small runs, so all twelve of them
        {60, 8, 4, 1, 2, 1, 4, 4, 0, 4, 12},   // great runs, so few free blocks
        {14, 24, 16, 4, 16, 1, 4, 4, 0, 4, 12}, // merges of marks
        {20, 8, 10, 4, 10, 20, 3, 3, 4, 20, 10}, // going down
    };

    /** What must have come up often enough, or the runs would look at too little. */
    private static final String[] NEEDED = {
        "put throws UnsupportedOperationException", "put throws IllegalStateException",
        "put throws IllegalArgumentException", "remove throws UnsupportedOperationException",
        "remove throws IllegalStateException", "remove true", "remove false",
        "flush throws UnsupportedOperationException", "flush throws IllegalStateException", "flush 0",
        "compact throws UnsupportedOperationException", "compact throws IllegalStateException",
        "compact 0", "compact 1", "compact 2", "compact -1",
        "merge throws UnsupportedOperationException", "merge throws IllegalStateException",
        "merge throws IllegalArgumentException", "merge 0",
        "format throws IllegalStateException", "recover throws IllegalStateException",
        "next true", "next false", "next throws IllegalStateException", "seek true", "seek false",
        "get throws NoSuchElementException", "entries throws NoSuchElementException",
    };
    private static final int OFTEN = 20;

    private interface Asked {
        Object answer();
    }

    private final Map<String, Integer> seen = new TreeMap<>();
    private final Due due = new Due("ModelTest");
    private RunStore store;
    private PlainStore plain;
    private long dice;
    private String history;

    public static void main(String[] args) {
        ModelTest test = new ModelTest();
        for (int run = 0; run < RUNS; run++) {
            test.playRun(run);
        }
        test.lookThatEnoughWasSeen();
        test.due.end();
    }

    private void playRun(int run) {
        dice = run * 7919L + 17;
        store = new RunStore();
        plain = new PlainStore();
        history = "run " + run;
        int[] weights = WEIGHTS[run % WEIGHTS.length];
        int keys = run % 3 == 0 ? 12 : 100;
        if (run % 50 != 0) {
            format();
        }
        for (int call = 1; call < CALLS; call++) {
            history = "run " + run + ", call " + call;
            playCall(weights, keys);
        }
        lookAtAll();
    }

    /** A fixed row of numbers that looks thrown, the same in each run of the test. */
    private int throwDice(int bound) {
        dice = dice * 6364136223846793005L + 1442695040888963407L;
        return (int) ((dice >>> 33) % bound);
    }

    private int pick(int[] weights) {
        int sum = 0;
        for (int weight : weights) {
            sum += weight;
        }
        int thrown = throwDice(sum);
        int picked = 0;
        while (thrown >= weights[picked]) {
            thrown -= weights[picked];
            picked++;
        }
        return picked;
    }

    private int pickKey(int keys) {
        return throwDice(50) == 0 ? throwDice(2) * 101 - 1 : throwDice(keys);
    }

    private int pickLevel() {
        return throwDice(30) == 0 ? throwDice(2) * 4 - 1 : throwDice(3);
    }

    private void playCall(int[] weights, int keys) {
        switch (pick(weights)) {
            case PUT -> put(pickKey(keys), throwDice(2000) - 1000);
            case REMOVE -> remove(pickKey(keys));
            case FLUSH -> compare("flush", () -> store.flush(), () -> plain.flush());
            case COMPACT -> compare("compact", () -> store.compact(), () -> plain.compact());
            case MERGE -> merge(pickLevel());
            case LIMIT -> limit(throwDice(12) == 0 ? throwDice(1010) - 5 : throwDice(20) - 1);
            case SEEK -> seek(pickKey(keys));
            case NEXT -> compare("next", () -> store.next(), () -> plain.next());
            case FORMAT -> format();
            case RECOVER -> compare("recover", () -> store.recover(), () -> plain.recover());
            default -> look(throwDice(10), keys);
        }
    }

    private void put(int key, int value) {
        compare("put", () -> store.put(key, value), () -> plain.put(key, value));
    }

    private void remove(int key) {
        compare("remove", () -> store.remove(key), () -> plain.remove(key));
    }

    private void merge(int level) {
        compare("merge", () -> store.merge(level), () -> plain.merge(level));
    }

    private void seek(int key) {
        compare("seek", () -> store.seek(key), () -> plain.seek(key));
    }

    private void format() {
        compare("format", () -> {
            store.format();
            return "done";
        }, () -> {
            plain.format();
            return "done";
        });
    }

    private void limit(int n) {
        compare("limit", () -> {
            store.limit(n);
            return "done";
        }, () -> {
            plain.limit(n);
            return "done";
        });
    }

    private void look(int at, int keys) {
        switch (at) {
            case 0 -> get(pickKey(keys));
            case 1 -> has(pickKey(keys));
            case 2 -> entries(pickLevel(), throwDice(6) - 1);
            case 3 -> runs(pickLevel());
            case 4 -> compare("left", () -> store.left(), () -> plain.left());
            case 5 -> compare("key", () -> store.key(), () -> plain.key());
            case 6 -> compare("value", () -> store.value(), () -> plain.value());
            case 7 -> compare("size", () -> store.size(), () -> plain.size());
            case 8 -> compare("memory", () -> store.memory(), () -> plain.memory());
            default -> compare("room", () -> store.room(), () -> plain.room());
        }
    }

    private void get(int key) {
        compare("get", () -> store.get(key), () -> plain.get(key));
    }

    private void has(int key) {
        compare("has", () -> store.has(key), () -> plain.has(key));
    }

    private void entries(int level, int i) {
        compare("entries", () -> store.entries(level, i), () -> plain.entries(level, i));
    }

    private void runs(int level) {
        compare("runs", () -> store.runs(level), () -> plain.runs(level));
    }

    /** The calls of a run and these stay below the 512 that an object is made for. */
    private void lookAtAll() {
        history += ", at its end";
        for (int at = 4; at < 10; at++) {
            look(at, 1);
        }
        for (int level = 0; level < 3; level++) {
            runs(level);
        }
        for (int key = 0; key < 100; key++) {
            get(key);
        }
    }

    private void compare(String call, Asked asked, Asked wanted) {
        String want = answerOf(wanted);
        due.isText(history + ": " + call, want, answerOf(asked));
        seen.merge(call + " " + want, 1, Integer::sum);
    }

    private static String answerOf(Asked asked) {
        try {
            return String.valueOf(asked.answer());
        } catch (RuntimeException thrown) {
            return "throws " + thrown.getClass().getSimpleName();
        }
    }

    private void lookThatEnoughWasSeen() {
        for (String needed : NEEDED) {
            due.is("often enough seen: " + needed, true, seen.getOrDefault(needed, 0) >= OFTEN);
        }
        due.is("often enough seen: room 0", true, seen.getOrDefault("room 0", 0) >= 1);
    }
}
