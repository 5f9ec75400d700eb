/** Runs of calls by a fixed row of numbers, wrong ones among them, against the reference. */
final class RandomRunsTest {
    private static final int ASKING_RUNS = 300;
    private static final int ASKING_CALLS = 512;
    private static final int CHANGING_RUNS = 150;
    private static final int CHANGING_CALLS = 190;

    private static final int[] EDGES = {Integer.MIN_VALUE, -1, 0, 1, 49, 50, 90, 91, 99, 100, 100000, 100001,
        Integer.MAX_VALUE};

    private long seed;

    private RandomRunsTest(long seed) {
        this.seed = seed;
    }

    public static void main(String[] args) {
        for (int run = 0; run < ASKING_RUNS; run++) {
            new RandomRunsTest(run * 7919L + 1).ask(run);
        }
        for (int run = 0; run < CHANGING_RUNS; run++) {
            new RandomRunsTest(run * 104729L + 5).change(run);
        }
        Check.end("RandomRunsTest");
    }

    private int next(int limit) {
        seed = seed * 6364136223846793005L + 1442695040888963407L;
        return (int) ((seed >>> 33) % limit);
    }

    /** Each answer of a run up to the last call that is promised. */
    private void ask(int run) {
        Asked x = new Asking(new Shelfwalk());
        Asked due = new Reference();
        int heavy = heaviest(run);
        for (int call = 0; call < ASKING_CALLS; call++) {
            int[] told = next(4) == 0 ? changing(heavy) : asking();
            Check.same("run " + run + ", call " + call, answer(x, told), answer(due, told));
        }
    }

    /** All that an object answers behind a run of changes. */
    private void change(int run) {
        int[][] calls = new int[CHANGING_CALLS][];
        Asked due = new Reference();
        int heavy = heaviest(run);
        for (int call = 0; call < CHANGING_CALLS; call++) {
            calls[call] = changing(heavy);
            answer(due, calls[call]);
        }
        Check.same("changes " + run, State.of(() -> changedBy(calls)), State.ofAsked(() -> due));
    }

    private static Shelfwalk changedBy(int[][] calls) {
        Shelfwalk x = new Shelfwalk();
        Asked asked = new Asking(x);
        for (int[] told : calls) {
            answer(asked, told);
        }
        return x;
    }

    private static int heaviest(int run) {
        return run % 3 == 0 ? 99 : run % 3 == 1 ? 9 : 1;
    }

    private int[] changing(int heavy) {
        int kind = next(20);
        if (kind < 11) {
            return new int[] {0, numberOr(4), numberOr(5), next(30) == 0 ? edge() : 1 + next(heavy)};
        }
        if (kind < 15) {
            return new int[] {1, numberOr(4), numberOr(5)};
        }
        if (kind < 18) {
            return new int[] {3, numberOr(5), numberOr(3)};
        }
        if (kind < 19) {
            return new int[] {2};
        }
        int bound = next(3) == 0 ? 100 + next(3) : 100 + next(99901);
        return new int[] {4, next(8) == 0 ? edge() : 50 + next(41), next(8) == 0 ? edge() : bound};
    }

    private int[] asking() {
        return new int[] {5 + next(9), numberOr(4), numberOr(5), next(2) == 0 ? numberOr(9) : numberOr(3), numberOr(3)};
    }

    private int numberOr(int count) {
        return next(25) == 0 ? edge() : next(12) == 0 ? count : next(count);
    }

    private int edge() {
        return EDGES[next(EDGES.length)];
    }

    private static String answer(Asked x, int[] told) {
        String[] answer = {""};
        String thrown = Check.thrownBy(() -> answer[0] = called(x, told));
        return name(told) + (thrown.equals(Check.NOTHING) ? answer[0] : "throws " + thrown);
    }

    private static String name(int[] told) {
        StringBuilder name = new StringBuilder("call");
        for (int number : told) {
            name.append(' ').append(number);
        }
        return name.append(": ").toString();
    }

    private static String called(Asked x, int[] told) {
        switch (told[0]) {
            case 0: return "" + x.loan(told[1], told[2], told[3]);
            case 1: return "" + x.strike(told[1], told[2]);
            case 2: return "" + x.fade();
            case 3: return "" + x.bar(told[1], told[2]);
            case 4: x.walk(told[1], told[2]); return "";
            case 5: return "" + x.landed(told[1], told[3]);
            case 6: return "" + x.rest(told[1], told[3]);
            case 7: return "" + x.sent(told[1], told[2] + told[4] * 2, told[3]);
            case 8: return "" + x.pushes();
            case 9: return "" + x.listed(told[1], told[3]);
            case 10: return "" + x.way(told[1], told[2], told[3], told[4]);
            case 11: return "" + x.share(told[1], told[3]);
            case 12: return "" + (int) x.text(told[1], told[2], told[3]);
            default: return "" + x.way(told[1], told[2], 0, told[4]);
        }
    }
}
