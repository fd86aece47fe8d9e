/** Counts the answers that are not due, prints each, and ends the test with exit code 1 if there was one. */
final class Due {
    interface Call {
        void make();
    }

    private final String test;
    private String sentence = "";
    private int asked;
    private int askedBefore;
    private int wrong;

    Due(String test) {
        this.test = test;
    }

    /**
     * Names the words of the document that the next calls test: of its Terms for 0, else of the promise
     * with that number. SentencesTest reads these lines, and asks that every word of the document has one.
     */
    void sentence(int promise, String words) {
        endSentence();
        sentence = "\"" + words + "\" (" + promise + "): ";
        askedBefore = asked;
    }

    private void endSentence() {
        if (!sentence.isEmpty() && asked == askedBefore) {
            tell("nothing is asked");
        }
    }

    void is(String call, long got, long want) {
        asked++;
        if (got != want) {
            tell(call + " answered " + got + ", due is " + want);
        }
    }

    void is(String call, boolean got, boolean want) {
        is(call, got ? 1 : 0, want ? 1 : 0);
    }

    /** No class at all is due for a call that throws nothing; else exactly the class that is named. */
    void refuses(String call, Class<? extends RuntimeException> want, Call made) {
        asked++;
        Class<?> got = null;
        try {
            made.make();
        } catch (RuntimeException e) {
            got = e.getClass();
        }
        if (got != want) {
            tell(call + " threw " + got + ", due is " + want);
        }
    }

    void index(String call, Call made) {
        refuses(call, IndexOutOfBoundsException.class, made);
    }

    void argument(String call, Call made) {
        refuses(call, IllegalArgumentException.class, made);
    }

    void state(String call, Call made) {
        refuses(call, IllegalStateException.class, made);
    }

    /** The numbers just below and just above a range, and some far away that wrap to one inside it. */
    static int[] outside(int least, int most) {
        return new int[] {least - 1, most + 1, Integer.MIN_VALUE, Integer.MAX_VALUE, least + (1 << 24), most - (1 << 24)};
    }

    /** Lets any number of hours go by, in as few calls as it takes. */
    static void passHours(Cablecourt x, int hours) {
        for (int left = hours; left > 0; left -= 24) {
            x.pass(Math.min(24, left));
        }
    }

    void tell(String text) {
        wrong++;
        System.out.println(test + ": " + sentence + text);
    }

    void end() {
        endSentence();
        sentence = "";
        System.out.println(test + ": " + asked + " asked, " + wrong + " wrong");
        if (wrong != 0) {
            System.exit(1);
        }
    }
}
