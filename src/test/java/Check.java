/** Counts the answers that are not as due, and ends a test with exit code 1 if there was one. */
final class Check {
    private final String test;
    private String sentence = "";
    private int sentences = 0;
    private int looked = 0;
    private int wrong = 0;

    /** Also names the sentence if a call throws where no throw is due. */
    Check(String test) {
        this.test = test;
        Thread.currentThread().setUncaughtExceptionHandler((thread, thrown) -> {
            System.out.println(test + ": " + sentence + "\n    threw " + thrown);
            thrown.printStackTrace(System.out);
            System.exit(1);
        });
    }

    /** Begins the test of a sentence that stands under 'Terms'. */
    void terms(String text) {
        begin("Terms: " + text);
    }

    /** Begins the test of a sentence of a promise. */
    void promise(int number, String text) {
        begin("Promise " + number + ": " + text);
    }

    /** Begins the test of what stands elsewhere, in LANGUAGE.md or README.md. */
    void rule(String text) {
        begin(text);
    }

    private void begin(String name) {
        sentences++;
        sentence = name;
    }

    void equal(String what, long due, long got) {
        looked++;
        if (due != got) {
            tell(what + " answered " + got + ", due is " + due);
        }
    }

    void equal(String what, boolean due, boolean got) {
        equal(what, due ? 1 : 0, got ? 1 : 0);
    }

    void equal(String what, String due, String got) {
        looked++;
        if (!due.equals(got)) {
            tell(what + " answered " + got + ", due is " + due);
        }
    }

    void outOfBounds(String what, Cardgate x, Runnable call) {
        isThrown(what, IndexOutOfBoundsException.class, x, call);
    }

    void illegalArgument(String what, Cardgate x, Runnable call) {
        isThrown(what, IllegalArgumentException.class, x, call);
    }

    void illegalState(String what, Cardgate x, Runnable call) {
        isThrown(what, IllegalStateException.class, x, call);
    }

    /** The call throws this very class, and none below it, and changes nothing that is told. */
    private void isThrown(String what, Class<?> due, Cardgate x, Runnable call) {
        looked++;
        String before = Snapshot.of(x);
        Class<?> got = null;
        try {
            call.run();
        } catch (RuntimeException e) {
            got = e.getClass();
        }
        if (got != due) {
            tell(what + " threw " + got + ", due is " + due);
        }
        if (!before.equals(Snapshot.of(x))) {
            tell(what + " changed " + before + " to " + Snapshot.of(x));
        }
    }

    private void tell(String text) {
        wrong++;
        if (wrong <= 40) {
            System.out.println(test + ": " + sentence + "\n    " + text);
        }
    }

    void end() {
        System.out.println(test + ": " + sentences + " sentences, " + looked + " looked at, " + wrong
            + " wrong");
        if (wrong != 0) {
            System.exit(1);
        }
    }
}
