/** Compares answers with those that are due, prints each that is not, and ends a test with the exit code. */
final class Due {
    interface Call {
        void run();
    }

    private final String test;
    private int looks = 0;
    private int wrong = 0;

    Due(String test) {
        this.test = test;
    }

    void is(String call, long want, long got) {
        looks++;
        if (got != want) {
            tell(call + " answered " + got + ", due is " + want);
        }
    }

    void is(String call, boolean want, boolean got) {
        looks++;
        if (got != want) {
            tell(call + " answered " + got + ", due is " + want);
        }
    }

    void isText(String call, String want, String got) {
        looks++;
        if (!want.equals(got)) {
            tell(call + " answered " + got + ", due is " + want);
        }
    }

    void illegalState(String call, Call tried) {
        throwsOf(call, IllegalStateException.class, tried);
    }

    void illegalArgument(String call, Call tried) {
        throwsOf(call, IllegalArgumentException.class, tried);
    }

    void noRoom(String call, Call tried) {
        throwsOf(call, UnsupportedOperationException.class, tried);
    }

    void noSuch(String call, Call tried) {
        throwsOf(call, java.util.NoSuchElementException.class, tried);
    }

    /** A call that throws this and leaves all that can be seen of its store as it was. */
    void refusesUnchanged(String call, Class<? extends RuntimeException> want, RunStore store, Call tried) {
        String before = Stores.told(store);
        throwsOf(call, want, tried);
        isText(call + " refused: the store", before, Stores.told(store));
    }

    void end() {
        if (wrong > 0) {
            System.out.println(test + ": " + wrong + " of " + looks + " answers are not as due");
            System.exit(1);
        }
        System.out.println(test + ": all " + looks + " answers are as due");
    }

    void throwsOf(String call, Class<? extends RuntimeException> want, Call tried) {
        looks++;
        try {
            tried.run();
        } catch (RuntimeException got) {
            if (got.getClass() != want) {
                tell(call + " throws " + got.getClass().getName() + ", due is " + want.getName());
            }
            return;
        }
        tell(call + " throws nothing, due is " + want.getName());
    }

    private void tell(String what) {
        wrong++;
        System.out.println(test + ": " + what);
    }
}
