/** Promise 8: rest. */
final class Promise08RestTest {
    public static void main(String[] args) {
        Check.held(8, "Returns the rest of a node.", Promise08RestTest::byHalves);
        Check.held(8, "`reader`: 0 to 3: whose walk", Promise08RestTest::readers);
        Check.held(8, "`node`: 0 to 8", Promise08RestTest::nodes);
        Check.held(8, "Returns the units, perhaps below 0.", Promise08RestTest::perhapsBelowZero);
        Check.held(8, "Throws `IndexOutOfBoundsException` if there is no such reader or node",
            Promise08RestTest::noSuchReaderOrNode);
        Check.held(8, "(The rest of the node itself is 0 ahead of that.)", Promise08RestTest::zeroAheadOfThat);
        Check.held(8, "A walk is settled by pushing, as long as there is a node whose rest is at least the bound",
            Promise08RestTest::settled);
        Check.held(8, "each neighbour's rest gets m times its weight, divided by the weights of all neighbours",
            Promise08RestTest::parts);
        Check.end("Promise08RestTest");
    }

    private static void byHalves() {
        Shelfwalk x = Nets.halvesOf(1, 1, 1);
        Check.same("of the reader", x.rest(0, 0), 97222);
        Check.same("of the first book", x.rest(0, 4), 27778);
        Check.same("of the second", x.rest(0, 5), 27778);
        Check.same("of the last, just pushed", x.rest(0, 6), 0);
        Check.same("of another reader", x.rest(0, 1), 0);
        Check.same("in another's walk", x.rest(1, 4), 0);
    }

    private static void readers() {
        Shelfwalk x = Nets.halves();
        Check.same("the lowest", x.rest(0, 0), 62500);
        Check.same("the highest", x.rest(3, 3), 62500);
        Check.same("the lowest's, of another", x.rest(0, 3), 0);
        Check.same("the highest's, of another", x.rest(3, 0), 0);
        Check.thrown("one below", Check.INDEX, () -> x.rest(-1, 0));
        Check.thrown("one beyond", Check.INDEX, () -> x.rest(4, 0));
    }

    private static void nodes() {
        Shelfwalk x = new Shelfwalk();
        x.loan(0, 4, 1);
        Check.same("the highest", x.rest(0, 8), 992);
        x.walk(50, 100000);
        Check.same("the lowest", x.rest(0, 0), 62500);
        Check.thrown("one below", Check.INDEX, () -> x.rest(0, -1));
        Check.thrown("one beyond", Check.INDEX, () -> x.rest(0, 9));
    }

    private static void perhapsBelowZero() {
        Shelfwalk x = Nets.halvesOf(1);
        x.strike(0, 0);
        Check.same("of the reader", x.rest(0, 0), -56641);
        Shelfwalk y = Nets.halvesOf(1, 5);
        y.bar(4, Shelfwalk.OPEN);
        Check.same("by one unit", y.rest(0, 4), -1);
        Shelfwalk z = new Shelfwalk();
        z.loan(0, 0, 3);
        Check.same("none at all", z.rest(0, 0), 0);
    }

    private static void noSuchReaderOrNode() {
        for (int wrong : new int[] {-1, 4, Integer.MIN_VALUE, Integer.MAX_VALUE}) {
            Check.refused("reader " + wrong, Check.INDEX, Nets::rough, x -> x.rest(wrong, 0));
        }
        for (int wrong : new int[] {-1, 9, Integer.MIN_VALUE, Integer.MAX_VALUE}) {
            Check.refused("node " + wrong, Check.INDEX, Nets::rough, x -> x.rest(0, wrong));
        }
        Check.thrown("both", Check.INDEX, () -> new Shelfwalk().rest(-1, -1));
    }

    /** A node that sends to itself keeps what is sent to it, and no more. */
    private static void zeroAheadOfThat() {
        Shelfwalk x = new Shelfwalk();
        x.walk(50, 100000);
        Check.same("the half, four times", x.rest(2, 2), 62500);
        x.walk(90, 100000);
        Check.same("nine tenths, 22 times", x.rest(2, 2), 98480);
    }

    private static void settled() {
        checkSettled("the empty net", Nets.empty(), 1000);
        checkSettled("the full net", Nets.full(), 1000);
        checkSettled("the rough net", Nets.rough(), 200);
        checkSettled("by halves", Nets.halvesOf(1, 1, 1), 100000);
        Shelfwalk x = Nets.full();
        x.walk(90, 100);
        checkSettled("the least bound", x, 100);
        x.strike(0, 0);
        checkSettled("behind a strike", x, 100);
        x.bar(1, Shelfwalk.CLOSED);
        checkSettled("behind a bar", x, 100);
    }

    private static void checkSettled(String what, Shelfwalk x, int bound) {
        for (int reader = 0; reader < State.READERS; reader++) {
            for (int node = 0; node < State.NODES; node++) {
                int rest = x.rest(reader, node);
                Check.holds(what + ", rest " + rest, rest < bound && rest > -bound);
            }
        }
    }

    /** Of 500000 a 100th goes to the first book, and of 123750, the half of what comes back, 1237 and one unit more. */
    private static void parts() {
        Shelfwalk x = Nets.halvesOf(1, 99);
        Check.same("of the first book", x.rest(0, 4), 5000 + 1237 + 1);
        Check.same("of the second, just pushed", x.rest(0, 5), 0);
        Check.same("of the reader", x.rest(0, 0), 61256);
    }
}
