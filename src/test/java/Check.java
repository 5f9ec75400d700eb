/** Counts what holds and what does not; a test's main ends with end(). */
final class Check {
    interface Call {
        void run();
    }

    private static int passed = 0;
    private static int failed = 0;

    private Check() {
    }

    static void same(String what, long got, long due) {
        tell(got == due, what, Long.toString(got), Long.toString(due));
    }

    static void same(String what, double got, double due) {
        tell(got == due, what, Double.toString(got), Double.toString(due));
    }

    static void same(String what, double got, double due, double near) {
        tell(got - due < near && due - got < near, what, Double.toString(got), Double.toString(due));
    }

    static void same(String what, String got, String due) {
        tell(got.equals(due), what, got, due);
    }

    static void holds(String what, boolean held) {
        tell(held, what, "false", "true");
    }

    static void noPlace(String what, Call call) {
        same(what, thrownBy(call), "IndexOutOfBoundsException");
    }

    static void badArgument(String what, Call call) {
        same(what, thrownBy(call), "IllegalArgumentException");
    }

    static void badState(String what, Call call) {
        same(what, thrownBy(call), "IllegalStateException");
    }

    /** That a call throws what is due, and that the object answers as before. */
    static void refused(Shelfwalk x, String what, String due, Call call) {
        String before = State.of(x);
        same(what, thrownBy(call), due);
        same(what + " changes nothing", State.of(x), before);
    }

    static String thrownBy(Call call) {
        try {
            call.run();
        } catch (RuntimeException e) {
            return e.getClass().getSimpleName();
        }
        return "nothing";
    }

    static void end(String test) {
        System.out.println(test + ": " + passed + " passed, " + failed + " failed");
        if (failed > 0) {
            System.exit(1);
        }
    }

    private static void tell(boolean held, String what, String got, String due) {
        if (held) {
            passed++;
            return;
        }
        failed++;
        if (failed <= 20) {
            System.out.println(what + " answered " + got + ", due is " + due);
        }
    }
}
