/** Counts what holds and what does not; a test's main ends with end(). */
final class Check {
    static final String INDEX = "IndexOutOfBoundsException";
    static final String ARGUMENT = "IllegalArgumentException";
    static final String STATE = "IllegalStateException";
    static final String NOTHING = "nothing";

    interface Call {
        void run();
    }

    interface Made {
        Shelfwalk get();
    }

    interface Use {
        void on(Shelfwalk x);
    }

    /** For each sentence. */
    private static final int MOST_TOLD = 5;

    private static String sentence = "";
    private static int passed = 0;
    private static int failed = 0;
    private static int told = 0;

    private Check() {
    }

    /** Runs the test of a sentence; the words are the document's, of the promise or of what holds for all. */
    static void held(int promise, String words, Call test) {
        sentence = "promise " + promise + ", \"" + words + "\": ";
        told = 0;
        holds("the document says so", Document.says(promise, words));
        same("the test throws", thrownBy(test), NOTHING);
        sentence = "";
    }

    static void same(String what, long got, long due) {
        tell(got == due, what, Long.toString(got), Long.toString(due));
    }

    static void same(String what, double got, double due) {
        tell(got == due, what, Double.toString(got), Double.toString(due));
    }

    static void near(String what, double got, double due) {
        tell(got - due < 1e-12 && due - got < 1e-12, what, Double.toString(got), Double.toString(due));
    }

    static void same(String what, String got, String due) {
        tell(got.equals(due), what, got, due);
    }

    static void other(String what, String got, String unlike) {
        tell(!got.equals(unlike), what, "the same", "another answer");
    }

    static void holds(String what, boolean held) {
        tell(held, what, "false", "true");
    }

    static void thrown(String what, String due, Call call) {
        same(what + " throws", thrownBy(call), due);
    }

    /** That a call throws what is due, and that the object answers as if it had not been called. */
    static void refused(String what, String due, Made made, Use use) {
        thrown(what, due, () -> use.on(made.get()));
        same(what + " changes nothing", State.of(() -> usedInVain(made, use)), State.of(made));
    }

    static String thrownBy(Call call) {
        try {
            call.run();
        } catch (RuntimeException e) {
            return e.getClass().getSimpleName();
        }
        return NOTHING;
    }

    static void end(String test) {
        System.out.println(test + ": " + passed + " passed, " + failed + " failed");
        if (failed > 0) {
            System.exit(1);
        }
    }

    private static Shelfwalk usedInVain(Made made, Use use) {
        Shelfwalk x = made.get();
        thrownBy(() -> use.on(x));
        return x;
    }

    private static void tell(boolean held, String what, String got, String due) {
        if (held) {
            passed++;
            return;
        }
        failed++;
        told++;
        if (told <= MOST_TOLD) {
            System.out.println(sentence + what + " answered " + got + ", due is " + due);
        }
    }
}
