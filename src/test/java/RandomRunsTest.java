import java.util.List;

/** Runs of calls by a fixed row of numbers, wrong ones among them, against the reference. */
final class RandomRunsTest {
    private static final int RUNS = 60;
    private static final int CALLS = 512;

    private long seed;

    private RandomRunsTest(long seed) {
        this.seed = seed;
    }

    public static void main(String[] args) {
        for (int run = 0; run < RUNS; run++) {
            new RandomRunsTest(run * 7919L + 1).oneRun(run);
        }
        Check.end("RandomRunsTest");
    }

    private int next(int limit) {
        seed = seed * 6364136223846793005L + 1442695040888963407L;
        return (int) ((seed >>> 33) % limit);
    }

    private void oneRun(int run) {
        Shelfwalk x = new Shelfwalk();
        Reference due = new Reference();
        int heavy = run % 3 == 0 ? 99 : run % 3 == 1 ? 9 : 1;
        if (run % 4 == 1) {
            x.walk(90, 100);
            due.walk(90, 100);
        }
        for (int call = 0; call < CALLS; call++) {
            String name = "run " + run + ", call " + call;
            change(x, due, heavy, name);
            compareWalks(x, due, name);
            if (call % 8 == 0) {
                compareRest(x, due, name);
            }
        }
    }

    private void change(Shelfwalk x, Reference due, int heavy, String name) {
        int reader = next(READERS_AND_WRONG) - 1;
        int book = next(BOOKS_AND_WRONG) - 1;
        boolean right = reader >= 0 && reader < 4 && book >= 0 && book < 5;
        boolean bookRight = book >= 0 && book < 5;
        int kind = next(20);
        if (kind < 10) {
            int weight = next(heavy + 2);
            boolean fits = weight >= 1 && weight <= 99;
            String thrown = !right ? INDEX : fits ? NOTHING : ARGUMENT;
            asDue(name, thrown, () -> x.loan(reader, book, weight), () -> due.loan(reader, book, weight));
        } else if (kind < 14) {
            String thrown = !right ? INDEX : due.isLoan(reader, book) ? NOTHING : STATE;
            asDue(name, thrown, () -> x.strike(reader, book), () -> due.strike(reader, book));
        } else if (kind < 18) {
            int how = next(5) - 1;
            String thrown = !bookRight ? INDEX : how >= 0 && how <= 2 ? NOTHING : ARGUMENT;
            asDue(name, thrown, () -> x.bar(book, how), () -> due.bar(book, how));
        } else if (kind < 19) {
            asDue(name, NOTHING, () -> x.fade(), () -> due.fade());
        } else {
            int damping = 49 + next(43);
            int bound = next(3) == 0 ? 99 + next(3) : 100 + next(100002 - 100);
            String thrown = damping >= 50 && damping <= 90 && bound >= 100 && bound <= 100000 ? NOTHING : ARGUMENT;
            asDue(name, thrown, () -> tell(x, damping, bound), () -> tell(due, damping, bound));
        }
    }

    private static final int READERS_AND_WRONG = 6;
    private static final int BOOKS_AND_WRONG = 7;
    private static final String NOTHING = "nothing";
    private static final String INDEX = "IndexOutOfBoundsException";
    private static final String ARGUMENT = "IllegalArgumentException";
    private static final String STATE = "IllegalStateException";

    private interface Answer {
        int get();
    }

    private static int tell(Shelfwalk x, int damping, int bound) {
        x.walk(damping, bound);
        return 0;
    }

    private static int tell(Reference due, int damping, int bound) {
        due.walk(damping, bound);
        return 0;
    }

    private static void asDue(String name, String thrown, Answer got, Answer due) {
        int[] answer = {0};
        Check.same(name + " throws", Check.thrownBy(() -> answer[0] = got.get()), thrown);
        if (thrown.equals(NOTHING)) {
            Check.same(name, answer[0], due.get());
        }
    }

    private static void compareWalks(Shelfwalk x, Reference due, String name) {
        Check.same(name + ", pushes", x.pushes(), due.pushes);
        for (int reader = 0; reader < State.READERS; reader++) {
            long units = 0;
            for (int node = 0; node < State.NODES; node++) {
                String where = name + ", reader " + reader + ", node " + node;
                Check.same(where + ", landed", x.landed(reader, node), due.landed[reader][node].longValueExact());
                Check.same(where + ", rest", x.rest(reader, node), due.rest[reader][node].longValueExact());
                units += x.landed(reader, node) + x.rest(reader, node);
                for (int other = 0; other < State.NODES; other++) {
                    long sent = due.sent[reader][node][other].longValueExact();
                    Check.same(where + ", sent " + other, x.sent(reader, node, other), sent);
                }
            }
            Check.same(name + ", all units of " + reader, units, 1000000);
        }
    }

    private static void compareRest(Shelfwalk x, Reference due, String name) {
        for (int reader = 0; reader < State.READERS; reader++) {
            double[] shares = due.shares(reader);
            for (int node = 0; node < State.NODES; node++) {
                Check.same(name + ", share", x.share(reader, node), shares[node]);
            }
            List<Integer> list = due.list(reader);
            for (int place = 0; place <= 6; place++) {
                Check.same(name + ", listed", x.listed(reader, place), place < list.size() ? list.get(place) : -1);
            }
            for (int book = 0; book < State.BOOKS; book++) {
                Check.same(name + ", text", State.text(x, reader, book), due.text(reader, book));
                compareWays(x, due.ways(reader, book), reader, book, name);
            }
        }
    }

    private static void compareWays(Shelfwalk x, List<int[]> ways, int reader, int book, String name) {
        for (int place = 0; place <= 13; place++) {
            for (int what = 0; what < 3; what++) {
                int want = place < ways.size() ? ways.get(place)[what] : -1;
                Check.same(name + ", way " + reader + " " + book, x.way(reader, book, place, what), want);
            }
        }
    }
}
