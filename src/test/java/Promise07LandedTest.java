/** Promise 7: landed. */
final class Promise07LandedTest {
    public static void main(String[] args) {
        Check.held(7, "Returns what landed at a node.", Promise07LandedTest::byHalves);
        Check.held(7, "`reader`: 0 to 3: whose walk", Promise07LandedTest::readers);
        Check.held(7, "`node`: 0 to 8", Promise07LandedTest::nodes);
        Check.held(7, "Returns the units.", Promise07LandedTest::mostAndLeast);
        Check.held(7, "Throws `IndexOutOfBoundsException` if there is no such reader or node",
            Promise07LandedTest::noSuchReaderOrNode);
        Check.held(7, "Of the units some landed at nodes, the rest of a node is what did not yet",
            Promise07LandedTest::noneIsLost);
        Check.held(7, "in whole units of which none is lost", Promise07LandedTest::noneIsLostByRounding);
        Check.held(7, "r times (100 less the damping), divided by 100, toward 0, lands there",
            Promise07LandedTest::towardZero);
        Check.held(7, "which may be below 0", Promise07LandedTest::belowZeroTowardZero);
        Check.end("Promise07LandedTest");
    }

    /** 1000000, 500000, 250000 and 125000 are pushed to and fro. */
    private static void byHalves() {
        Shelfwalk x = Nets.halvesOf(1);
        Check.same("at the reader", x.landed(0, 0), 500000 + 125000);
        Check.same("at the book", x.landed(0, 4), 250000 + 62500);
        Check.same("at a book without loans", x.landed(0, 5), 0);
        Check.same("in another's walk", x.landed(1, 4), 0);
    }

    private static void readers() {
        Shelfwalk x = Nets.halves();
        Check.same("the lowest", x.landed(0, 0), 937500);
        Check.same("the highest", x.landed(3, 3), 937500);
        Check.same("the lowest's, at another", x.landed(0, 3), 0);
        Check.same("the highest's, at another", x.landed(3, 0), 0);
        Check.thrown("one below", Check.INDEX, () -> x.landed(-1, 0));
        Check.thrown("one beyond", Check.INDEX, () -> x.landed(4, 0));
    }

    private static void nodes() {
        Shelfwalk x = new Shelfwalk();
        x.loan(0, 4, 1);
        x.walk(50, 100000);
        Check.same("the lowest", x.landed(0, 0), 625000);
        Check.same("the highest", x.landed(0, 8), 312500);
        Check.thrown("one below", Check.INDEX, () -> x.landed(0, -1));
        Check.thrown("one beyond", Check.INDEX, () -> x.landed(0, 9));
    }

    private static void mostAndLeast() {
        Shelfwalk x = Nets.halvesOf(1);
        x.strike(0, 0);
        Check.same("more than all units, when others are below 0", x.landed(0, 0), 1056641);
        Shelfwalk y = new Shelfwalk();
        y.loan(0, 0, 3);
        y.loan(1, 0, 2);
        y.loan(1, 1, 4);
        y.bar(1, Shelfwalk.HIDDEN);
        y.bar(0, Shelfwalk.CLOSED);
        Check.same("below 0", y.landed(0, 4), -12);
    }

    private static void noSuchReaderOrNode() {
        for (int wrong : new int[] {-1, 4, Integer.MIN_VALUE, Integer.MAX_VALUE}) {
            Check.refused("reader " + wrong, Check.INDEX, Nets::rough, x -> x.landed(wrong, 0));
        }
        for (int wrong : new int[] {-1, 9, Integer.MIN_VALUE, Integer.MAX_VALUE}) {
            Check.refused("node " + wrong, Check.INDEX, Nets::rough, x -> x.landed(0, wrong));
        }
        Check.thrown("both", Check.INDEX, () -> new Shelfwalk().landed(4, 9));
    }

    private static void noneIsLost() {
        checkUnits("the empty net", Nets.empty());
        checkUnits("the full net", Nets.full());
        checkUnits("the full net, light", Nets.fullOf(1));
        checkUnits("the rough net", Nets.rough());
        checkUnits("by halves", Nets.halvesOf(1, 1, 1));
    }

    private static void noneIsLostByRounding() {
        Shelfwalk x = Nets.full();
        x.walk(53, 101);
        x.strike(0, 0);
        checkUnits("a strike", x);
        x.loan(0, 0, 7);
        checkUnits("a loan", x);
        x.fade();
        checkUnits("a fade", x);
        x.bar(2, Shelfwalk.CLOSED);
        checkUnits("a bar", x);
        x.walk(87, 100);
        checkUnits("begun anew", x);
    }

    private static void checkUnits(String what, Shelfwalk x) {
        for (int reader = 0; reader < State.READERS; reader++) {
            int units = 0;
            for (int node = 0; node < State.NODES; node++) {
                units += x.landed(reader, node) + x.rest(reader, node);
            }
            Check.same(what + ", walk of " + reader, units, 1000000);
        }
    }

    /** 1000000, 510000, 260100 and 132651 are pushed; of the last, 64998.99 land. */
    private static void towardZero() {
        Shelfwalk x = Nets.halvesOf(1);
        x.walk(51, 100000);
        Check.same("at the reader", x.landed(0, 0), 490000 + 127449);
        Check.same("at the book", x.landed(0, 4), 249900 + 64998);
        Check.same("the rest", x.rest(0, 0), 67653);
    }

    /** Of -642651 at the book -314898.99 land, of -233529 at the reader -114429.21, and of -119100 -58359. */
    private static void belowZeroTowardZero() {
        Shelfwalk x = Nets.halvesOf(1);
        x.walk(51, 100000);
        x.strike(0, 0);
        Check.same("at the book", x.landed(0, 4), 249900 + 64998 - 314898);
        Check.same("at the reader", x.landed(0, 0), 617449 + 348048 + 177505 + 90527 - 114429 - 58359);
        Check.same("the rest", x.rest(0, 0), -60741);
    }
}
