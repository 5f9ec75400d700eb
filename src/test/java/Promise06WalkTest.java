/** Promise 6: walk. */
final class Promise06WalkTest {
    private static final String ARGUMENT = "IllegalArgumentException";

    public static void main(String[] args) {
        settlesFromTheBound();
        dampings();
        beginsAnew();
        staysTold();
        wrong();
        Check.end("Promise06WalkTest");
    }

    /** By halves the rest comes to 62500 exactly, which is pushed with the bound 62500 alone. */
    private static void settlesFromTheBound() {
        Shelfwalk x = new Shelfwalk();
        x.walk(50, 62500);
        Check.same("at the bound", x.rest(0, 0), 31250);
        Check.same("five pushes a walk", x.pushes(), 124 + 20);
        x.walk(50, 62501);
        Check.same("below the bound", x.rest(0, 0), 62500);
        Check.same("landed", x.landed(0, 0), 937500);
        Check.same("sent", x.sent(0, 0, 0), 937500);
        Check.same("four pushes a walk", x.pushes(), 124 + 36);
    }

    private static void dampings() {
        Shelfwalk x = new Shelfwalk();
        x.walk(90, 100000);
        Check.same("22 pushes a walk", x.pushes(), 124 + 88);
        Check.same("most damping, most bound", x.rest(1, 1), 98480);
        x.walk(90, 100);
        Check.same("88 pushes a walk", x.pushes(), 124 + 88 + 352);
        Check.same("least bound", x.rest(1, 1), 98);
        Check.same("landed", x.landed(1, 1), 999902);
        x.walk(50, 100000);
        Check.same("least damping", x.rest(3, 3), 62500);
    }

    private static void beginsAnew() {
        Shelfwalk x = new Shelfwalk();
        x.loan(0, 0, 9);
        x.loan(1, 0, 5);
        x.strike(0, 0);
        x.walk(80, 1000);
        Shelfwalk y = new Shelfwalk();
        y.loan(1, 0, 5);
        y.walk(80, 1000);
        for (int reader = 0; reader < State.READERS; reader++) {
            for (int node = 0; node < State.NODES; node++) {
                Check.same("landed", x.landed(reader, node), y.landed(reader, node));
                Check.same("rest", x.rest(reader, node), y.rest(reader, node));
            }
        }
        int before = x.pushes();
        x.walk(80, 1000);
        Check.holds("told as it was, begun anew all the same", x.pushes() > before);
    }

    private static void staysTold() {
        Shelfwalk x = new Shelfwalk();
        x.walk(50, 50000);
        x.loan(0, 0, 1);
        Check.same("damping", x.share(0, 4), 1.0 / 3.0, 1e-12);
        for (int node = 0; node < State.NODES; node++) {
            Check.holds("bound", Math.abs(x.rest(0, node)) < 50000);
        }
        Check.holds("not a smaller one", Math.abs(x.rest(0, 0)) + Math.abs(x.rest(0, 4)) > 1000);
    }

    private static void wrong() {
        Shelfwalk x = new Shelfwalk();
        x.walk(60, 200);
        x.loan(0, 0, 3);
        Check.refused(x, "damping below", ARGUMENT, () -> x.walk(49, 100));
        Check.refused(x, "damping beyond", ARGUMENT, () -> x.walk(91, 100));
        Check.refused(x, "bound below", ARGUMENT, () -> x.walk(50, 99));
        Check.refused(x, "bound beyond", ARGUMENT, () -> x.walk(50, 100001));
        Check.refused(x, "both", ARGUMENT, () -> x.walk(Integer.MIN_VALUE, Integer.MAX_VALUE));
        Shelfwalk y = new Shelfwalk();
        y.walk(60, 200);
        y.loan(0, 0, 3);
        y.loan(1, 0, 2);
        x.loan(1, 0, 2);
        Check.same("neither was kept", State.of(x), State.of(y));
    }
}
