/** Promise 6: walk. */
final class Promise06WalkTest {
    public static void main(String[] args) {
        Check.held(6, "Tells damping and bound.", Promise06WalkTest::staysTold);
        Check.held(6, "`damping`: 50 to 90", Promise06WalkTest::dampings);
        Check.held(6, "`bound`: 100 to 100000", Promise06WalkTest::bounds);
        Check.held(6, "Throws `IllegalArgumentException` if damping or bound is out of range",
            Promise06WalkTest::outOfRange);
        Check.held(6, "with a damping, 50 to 90 hundredths, 80 at first, for all walks.",
            Promise06WalkTest::forAllWalks);
        Check.held(6, "When the damping or the bound is told, all walks begin anew, and are settled.",
            Promise06WalkTest::beginAnew);
        Check.held(6, "as long as there is a node whose rest is at least the bound", Promise06WalkTest::atTheBound);
        Check.held(6, "without a sign", Promise06WalkTest::withoutSign);
        Check.held(6, "the lowest such node.", Promise06WalkTest::lowestFirst);
        Check.end("Promise06WalkTest");
    }

    /** For what is mended later, too: by halves, no push below 100000. */
    private static void staysTold() {
        Shelfwalk x = Nets.halves();
        x.loan(0, 0, 1);
        // -875000 at the reader, 500000 at the book, 250000 at the reader, 125000 at the book
        Check.same("landed at the reader", x.landed(0, 0), 937500 - 437500 + 125000);
        Check.same("landed at the book", x.landed(0, 4), 250000 + 62500);
        Check.same("rest", x.rest(0, 0), 62500);
        Check.near("share", x.share(0, 4), 1.0 / 3.0);
    }

    private static void dampings() {
        Shelfwalk x = new Shelfwalk();
        x.walk(50, 1000);
        x.loan(0, 0, 1);
        Check.near("share by the least", x.share(0, 4), 0.5 / 1.5);
        x.walk(90, 1000);
        Check.near("share by the most", x.share(0, 4), 0.9 / 1.9);
        x.walk(90, 100000);
        // 22 pushes of a walk that goes to its own node
        Check.same("rest by the most", x.rest(1, 1), 98480);
        Check.same("landed by the most", x.landed(1, 1), 901520);
        Check.thrown("one below", Check.ARGUMENT, () -> x.walk(49, 1000));
        Check.thrown("one beyond", Check.ARGUMENT, () -> x.walk(91, 1000));
    }

    private static void bounds() {
        Shelfwalk x = new Shelfwalk();
        x.walk(90, 100);
        Check.same("rest by the least", x.rest(1, 1), 98);
        Check.same("88 pushes of each walk", x.pushes(), 124 + 4 * 88);
        x.walk(90, 100000);
        Check.same("rest by the most", x.rest(1, 1), 98480);
        Check.same("22 pushes of each walk", x.pushes(), 124 + 4 * 88 + 4 * 22);
        Check.thrown("one below", Check.ARGUMENT, () -> x.walk(50, 99));
        Check.thrown("one beyond", Check.ARGUMENT, () -> x.walk(50, 100001));
    }

    private static void outOfRange() {
        for (int wrong : new int[] {49, 91, 0, -80, Integer.MIN_VALUE, Integer.MAX_VALUE}) {
            Check.refused("damping " + wrong, Check.ARGUMENT, Nets::rough, x -> x.walk(wrong, 100000));
        }
        for (int wrong : new int[] {99, 100001, 0, -1000, Integer.MIN_VALUE, Integer.MAX_VALUE}) {
            Check.refused("bound " + wrong, Check.ARGUMENT, Nets::rough, x -> x.walk(90, wrong));
        }
        Check.refused("both", Check.ARGUMENT, Nets::rough, x -> x.walk(49, 99));
        Check.refused("the empty net", Check.ARGUMENT, Nets::empty, x -> x.walk(50, 100001));
        Check.refused("the full net", Check.ARGUMENT, Nets::full, x -> x.walk(91, 100));
    }

    private static void forAllWalks() {
        Shelfwalk x = Nets.halves();
        for (int reader = 0; reader < State.READERS; reader++) {
            Check.same("landed", x.landed(reader, reader), 937500);
            Check.same("rest", x.rest(reader, reader), 62500);
        }
    }

    private static void beginAnew() {
        Check.same("nothing is left of a loan", State.walksOf(Promise06WalkTest::begunBehindStrike),
            State.walksOf(Shelfwalk::new));
        Shelfwalk x = Nets.halvesOf(1);
        int before = x.pushes();
        x.walk(50, 100000);
        Check.same("told as it was, pushed anew", x.pushes(), before + 4 * 4);
        Check.same("and settled as before", State.walkOf(x, 0), State.walkOf(Nets.halvesOf(1), 0));
        for (int reader = 0; reader < State.READERS; reader++) {
            Shelfwalk rough = Nets.rough();
            rough.bar(0, Shelfwalk.OPEN);
            rough.walk(60, 200);
            Check.same("as ahead of the mending", State.walkOf(rough, reader), State.walkOf(Nets.rough(), reader));
        }
    }

    private static Shelfwalk begunBehindStrike() {
        Shelfwalk x = new Shelfwalk();
        x.loan(0, 0, 9);
        x.loan(1, 0, 5);
        x.strike(0, 0);
        x.strike(1, 0);
        x.walk(80, 1000);
        return x;
    }

    /** By halves a rest of 62500 comes. */
    private static void atTheBound() {
        Shelfwalk x = new Shelfwalk();
        x.walk(50, 62500);
        Check.same("at the bound", x.rest(0, 0), 31250);
        Check.same("five pushes of each walk", x.pushes(), 124 + 20);
        x.walk(50, 62501);
        Check.same("one below the bound", x.rest(0, 0), 62500);
        Check.same("four pushes of each walk", x.pushes(), 124 + 36);
        x.walk(50, 62499);
        Check.same("one beyond the bound", x.rest(0, 0), 31250);
    }

    /** Behind the strike 687500 are pushed to 42969, -625000 of the book make -269531 of it, and so -67383. */
    private static void withoutSign() {
        Check.same("at the bound", struckBy(67383), -33692);
        Check.same("one less than the bound", struckBy(67384), -67383);
        Check.same("one more than the bound", struckBy(67382), -33692);
    }

    private static int struckBy(int bound) {
        Shelfwalk x = new Shelfwalk();
        x.walk(50, bound);
        x.loan(0, 0, 1);
        x.strike(0, 0);
        return x.rest(0, 0);
    }

    /** Node 5 brings the reader's rest to 166667, and the reader is pushed ahead of node 6. */
    private static void lowestFirst() {
        Shelfwalk x = Nets.halvesOf(1, 1, 1);
        Check.same("landed at node 4", x.landed(0, 4), 83334);
        Check.same("landed at node 5", x.landed(0, 5), 83333);
        Check.same("landed at the reader", x.landed(0, 0), 500000 + 83333);
        Check.same("landed at node 6", x.landed(0, 6), 97222);
        Check.same("rest of node 4", x.rest(0, 4), 27778);
        Check.same("rest of the reader", x.rest(0, 0), 97222);
    }
}
