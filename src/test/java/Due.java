/** Counts the answers that are not due, prints each, and ends the test with exit code 1 if there was one. */
final class Due {
    interface Call {
        void make();
    }

    private final String test;
    private int asked;
    private int wrong;

    Due(String test) {
        this.test = test;
    }

    void is(String call, long got, long want) {
        asked++;
        if (got != want) {
            tell(call + " answered " + got + ", due is " + want);
        }
    }

    void is(String call, boolean got, boolean want) {
        is(call, got ? 1 : 0, want ? 1 : 0);
    }

    /** No class at all is due for a call that throws nothing; else exactly the class that is named. */
    void refuses(String call, Class<? extends RuntimeException> want, Call made) {
        asked++;
        Class<?> got = null;
        try {
            made.make();
        } catch (RuntimeException e) {
            got = e.getClass();
        }
        if (got != want) {
            tell(call + " threw " + got + ", due is " + want);
        }
    }

    void index(String call, Call made) {
        refuses(call, IndexOutOfBoundsException.class, made);
    }

    void argument(String call, Call made) {
        refuses(call, IllegalArgumentException.class, made);
    }

    void state(String call, Call made) {
        refuses(call, IllegalStateException.class, made);
    }

    void tell(String text) {
        wrong++;
        System.out.println(test + ": " + text);
    }

    void end() {
        System.out.println(test + ": " + asked + " asked, " + wrong + " wrong");
        if (wrong != 0) {
            System.exit(1);
        }
    }
}
