/** What is due of calls: prints every answer that is not, with exit code 1 if there was one. */
final class Due {
    interface Call {
        long answer();
    }

    private final String name;
    private String words = "";
    private int asked = 0;
    private int askedAheadOfWords = 0;
    private int wrong = 0;

    Due(String name) {
        this.name = name;
    }

    /** From here on answers are due by these words of the document. */
    void by(String words) {
        endOfWords();
        this.words = words;
        askedAheadOfWords = asked;
    }

    void is(long due, String call, long got) {
        asked++;
        if (got != due) {
            fail(call + " answered " + got + ", due is " + due);
        }
    }

    void is(boolean due, String call, boolean got) {
        is(due ? 1 : 0, call, got ? 1 : 0);
    }

    void is(String due, String call, String got) {
        asked++;
        if (!got.equals(due)) {
            fail(call + " answered \"" + got + "\", due is \"" + due + "\"");
        }
    }

    /** The exception must be of the very class: a call throws exactly what the document says. */
    void thrown(Class<? extends RuntimeException> due, String call, Call asking) {
        asked++;
        try {
            fail(call + " answered " + asking.answer() + ", due is " + due.getName());
        } catch (RuntimeException e) {
            if (e.getClass() != due) {
                fail(call + " threw " + e + ", due is " + due.getName());
            }
        }
    }

    void end() {
        endOfWords();
        System.out.println(name + ": " + asked + " answers looked at, " + wrong + " wrong");
        if (wrong != 0 || asked == 0) {
            System.exit(1);
        }
    }

    private void endOfWords() {
        if (!words.isEmpty() && asked == askedAheadOfWords) {
            fail("nothing was asked");
        }
    }

    private void fail(String what) {
        wrong++;
        System.out.println(name + ": " + what + (words.isEmpty() ? "" : " (" + words + ")"));
    }
}
