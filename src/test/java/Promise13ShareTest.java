/** Promise 13: share. */
final class Promise13ShareTest {
    public static void main(String[] args) {
        Check.held(13, "Returns the exact share of a node.", Promise13ShareTest::toTheLastBit);
        Check.held(13, "`reader`: 0 to 3: whose walk", Promise13ShareTest::readers);
        Check.held(13, "`node`: 0 to 8", Promise13ShareTest::nodes);
        Check.held(13, "Returns the share.", Promise13ShareTest::sumsToOne);
        Check.held(13, "Throws `IndexOutOfBoundsException` if there is no such reader or node",
            Promise13ShareTest::noSuchReaderOrNode);
        Check.held(13, "the damping by 100.0", Promise13ShareTest::dampings);
        Check.held(13, "the weight from j to i by the weights of all neighbours of j, 0.0 without a weight",
            Promise13ShareTest::withoutWeight);
        Check.held(13, "the column on the right is 1.0 less the damping by 100.0 in the row of the reader",
            Promise13ShareTest::emptyNet);
        Check.held(13, "(i, j) is less by f times (k, j), and the right one of i by f times that of k.",
            Promise13ShareTest::stepByStep);
        Check.held(13, "one behind the other, divided by (i, i).", Promise13ShareTest::fullNet);
        Check.held(13, "has the reader whose walk it is as its neighbour", Promise13ShareTest::withoutNeighbours);
        Check.end("Promise13ShareTest");
    }

    private static void toTheLastBit() {
        Shelfwalk x = new Shelfwalk();
        x.loan(0, 0, 3);
        Check.same("a loan", x.share(0, 4), 0.44444444444444453);
        x.loan(1, 0, 2);
        x.loan(1, 1, 4);
        Check.same("three loans", x.share(0, 5), 0.10195141377937078);
        x.bar(0, Shelfwalk.CLOSED);
        Check.same("CLOSED", x.share(0, 4), 0.0);
        Check.same("the reader alone", x.share(0, 0), 1.0);
    }

    private static void readers() {
        Shelfwalk x = new Shelfwalk();
        Check.same("the lowest", x.share(0, 0), 1.0);
        Check.same("the highest", x.share(3, 3), 1.0);
        Check.same("the lowest's, of another", x.share(0, 3), 0.0);
        Check.same("the highest's, of another", x.share(3, 0), 0.0);
        Check.thrown("one below", Check.INDEX, () -> x.share(-1, 0));
        Check.thrown("one beyond", Check.INDEX, () -> x.share(4, 0));
    }

    private static void nodes() {
        Shelfwalk x = new Shelfwalk();
        x.loan(0, 4, 1);
        Check.near("the lowest", x.share(0, 0), 1.0 / 1.8);
        Check.near("the highest", x.share(0, 8), 0.8 / 1.8);
        Check.thrown("one below", Check.INDEX, () -> x.share(0, -1));
        Check.thrown("one beyond", Check.INDEX, () -> x.share(0, 9));
    }

    private static void sumsToOne() {
        for (Check.Made made : new Check.Made[] {Nets::empty, Nets::full, Nets::rough}) {
            Shelfwalk x = made.get();
            for (int reader = 0; reader < State.READERS; reader++) {
                double sum = 0.0;
                for (int node = 0; node < State.NODES; node++) {
                    sum += x.share(reader, node);
                }
                Check.near("all shares of " + reader, sum, 1.0);
            }
        }
    }

    private static void noSuchReaderOrNode() {
        for (int wrong : new int[] {-1, 4, Integer.MIN_VALUE, Integer.MAX_VALUE}) {
            Check.refused("reader " + wrong, Check.INDEX, Nets::rough, x -> x.share(wrong, 0));
        }
        for (int wrong : new int[] {-1, 9, Integer.MIN_VALUE, Integer.MAX_VALUE}) {
            Check.refused("node " + wrong, Check.INDEX, Nets::rough, x -> x.share(0, wrong));
        }
        Check.thrown("both", Check.INDEX, () -> new Shelfwalk().share(4, 9));
    }

    /** A reader and a book: 1 by 1 and the damping, and the damping of that. */
    private static void dampings() {
        Shelfwalk x = new Shelfwalk();
        x.loan(2, 2, 50);
        for (int damping = 50; damping <= 90; damping++) {
            x.walk(damping, 100000);
            Check.near("the reader's", x.share(2, 2), 1.0 / (1.0 + damping / 100.0));
            Check.near("the book's", x.share(2, 6), damping / 100.0 / (1.0 + damping / 100.0));
        }
    }

    /** What can't be walked to has no share at all; the lightest part of the heaviest has one. */
    private static void withoutWeight() {
        Shelfwalk x = new Shelfwalk();
        x.loan(0, 0, 1);
        x.loan(0, 1, 99);
        x.loan(3, 2, 5);
        Check.same("another's book", x.share(0, 6), 0.0);
        Check.same("another reader", x.share(0, 3), 0.0);
        Check.same("a book without loans", x.share(0, 7), 0.0);
        Check.near("a 100th of what is sent", x.share(0, 4), 0.8 / 1.8 / 100.0);
        Check.near("99 of them", x.share(0, 5), 0.8 / 1.8 / 100.0 * 99.0);
    }

    private static void emptyNet() {
        for (int reader = 0; reader < State.READERS; reader++) {
            Shelfwalk x = new Shelfwalk();
            for (int damping = 50; damping <= 90; damping++) {
                x.walk(damping, 100000);
                for (int node = 0; node < State.NODES; node++) {
                    Check.same("damping " + damping, x.share(reader, node), node == reader ? 1.0 : 0.0);
                }
            }
        }
    }

    /** The order of the steps shows in the last bits. */
    private static void stepByStep() {
        Shelfwalk x = new Shelfwalk();
        Reference due = new Reference();
        for (int k = 0; k < 12; k++) {
            x.loan(k % 4, k % 5, 1 + k * 37 % 99);
            due.loan(k % 4, k % 5, 1 + k * 37 % 99);
            for (int reader = 0; reader < State.READERS; reader++) {
                for (int node = 0; node < State.NODES; node++) {
                    Check.same("share", x.share(reader, node), due.share(reader, node));
                }
            }
        }
    }

    private static void fullNet() {
        Shelfwalk x = new Shelfwalk();
        Reference due = new Reference();
        for (int k = 0; k < 20; k++) {
            x.loan(k % 4, k % 5, 1 + k * 61 % 99);
            due.loan(k % 4, k % 5, 1 + k * 61 % 99);
        }
        for (int damping = 50; damping <= 90; damping += 10) {
            x.walk(damping, 100000);
            due.walk(damping, 100000);
            for (int reader = 0; reader < State.READERS; reader++) {
                for (int node = 0; node < State.NODES; node++) {
                    Check.same("share", x.share(reader, node), due.share(reader, node));
                }
            }
        }
        Shelfwalk even = Nets.full();
        // All of a reader's weights are alike, so the four others have as much, and so have the books.
        Check.near("books alike", even.share(1, 4), even.share(1, 8));
        Check.near("readers alike", even.share(1, 0), even.share(1, 3));
        Check.near("all books", even.share(1, 4) * 5, 0.8 / 1.8);
    }

    private static void withoutNeighbours() {
        Shelfwalk x = new Shelfwalk();
        x.loan(1, 1, 1);
        Check.same("of a walk elsewhere", x.share(0, 0), 1.0);
        Check.same("of a reader elsewhere", x.share(0, 1), 0.0);
        x.bar(1, Shelfwalk.CLOSED);
        Check.same("of a CLOSED book's reader", x.share(1, 1), 1.0);
        Check.same("of a CLOSED book", x.share(1, 5), 0.0);
    }
}
