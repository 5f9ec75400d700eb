/** Promise 9: sent. */
final class Promise09SentTest {
    public static void main(String[] args) {
        Check.held(9, "Returns what a node sent to another one.", Promise09SentTest::byHalves);
        Check.held(9, "`reader`: 0 to 3: whose walk", Promise09SentTest::readers);
        Check.held(9, "`node`: 0 to 8", Promise09SentTest::nodes);
        Check.held(9, "`other`: 0 to 8", Promise09SentTest::others);
        Check.held(9, "Returns the units.", Promise09SentTest::units);
        Check.held(9, "Throws `IndexOutOfBoundsException` if there is no such reader or node, of either",
            Promise09SentTest::noSuchReaderOrNode);
        Check.held(9, "each node also knows how many units it sent to each node.", Promise09SentTest::eachToEach);
        Check.held(9, "toward 0, and the neighbour with the lowest number what is over by that",
            Promise09SentTest::overToTheLowest);
        Check.held(9, "of what is left, m, each neighbour's rest gets m times its weight",
            Promise09SentTest::belowZeroTowardZero);
        Check.held(9, "all this is sent.", Promise09SentTest::allThisIsSent);
        Check.held(9, "with the weight 1, also if it is that reader itself.", Promise09SentTest::toItself);
        Check.held(9, "with m the sum of all that the node has sent, each node's rest is less by what was sent to it",
            Promise09SentTest::sentAnew);
        Check.held(9, "toward 0, the one with the lowest number what is over.", Promise09SentTest::mendedOver);
        Check.held(9, "all nodes, whether something changed for them or not, and then all walks are settled.",
            Promise09SentTest::allNodesAreMended);
        Check.end("Promise09SentTest");
    }

    private static void byHalves() {
        Shelfwalk x = Nets.halvesOf(1);
        Check.same("by the reader", x.sent(0, 0, 4), 500000 + 125000);
        Check.same("by the book", x.sent(0, 4, 0), 250000 + 62500);
    }

    private static void readers() {
        Shelfwalk x = Nets.halves();
        Check.same("the lowest", x.sent(0, 0, 0), 937500);
        Check.same("the highest", x.sent(3, 3, 3), 937500);
        Check.same("the lowest's, by another", x.sent(0, 3, 3), 0);
        Check.thrown("one below", Check.INDEX, () -> x.sent(-1, 0, 0));
        Check.thrown("one beyond", Check.INDEX, () -> x.sent(4, 0, 0));
    }

    private static void nodes() {
        Shelfwalk x = new Shelfwalk();
        x.loan(0, 4, 1);
        x.walk(50, 100000);
        Check.same("the lowest", x.sent(0, 0, 8), 625000);
        Check.same("the highest", x.sent(0, 8, 0), 312500);
        Check.thrown("one below", Check.INDEX, () -> x.sent(0, -1, 0));
        Check.thrown("one beyond", Check.INDEX, () -> x.sent(0, 9, 0));
    }

    private static void others() {
        Shelfwalk x = new Shelfwalk();
        x.loan(3, 4, 1);
        x.walk(50, 100000);
        Check.same("to the highest", x.sent(3, 3, 8), 625000);
        Check.same("to the lowest", x.sent(3, 3, 0), 0);
        Check.same("to the lowest in its walk", x.sent(0, 0, 0), 937500);
        Check.thrown("one below", Check.INDEX, () -> x.sent(0, 0, -1));
        Check.thrown("one beyond", Check.INDEX, () -> x.sent(0, 0, 9));
    }

    private static void units() {
        Shelfwalk x = new Shelfwalk();
        Check.same("none", x.sent(0, 4, 0), 0);
        x.walk(90, 100);
        Check.same("nine times what landed, and what was rounded", x.sent(0, 0, 0), sumOfPushes(100));
        Check.holds("that is more than there are", x.sent(0, 0, 0) > 8990000);
    }

    private static int sumOfPushes(int bound) {
        int sum = 0;
        for (int rest = 1000000; rest >= bound;) {
            rest -= rest / 10;
            sum += rest;
        }
        return sum;
    }

    private static void noSuchReaderOrNode() {
        for (int wrong : new int[] {-1, 4, Integer.MIN_VALUE, Integer.MAX_VALUE}) {
            Check.refused("reader " + wrong, Check.INDEX, Nets::rough, x -> x.sent(wrong, 0, 0));
        }
        for (int wrong : new int[] {-1, 9, Integer.MIN_VALUE, Integer.MAX_VALUE}) {
            Check.refused("node " + wrong, Check.INDEX, Nets::rough, x -> x.sent(0, wrong, 0));
            Check.refused("other " + wrong, Check.INDEX, Nets::rough, x -> x.sent(0, 0, wrong));
        }
        Check.thrown("both nodes", Check.INDEX, () -> new Shelfwalk().sent(0, 9, 9));
    }

    private static void eachToEach() {
        Shelfwalk x = Nets.full();
        for (int node = 0; node < State.NODES; node++) {
            for (int other = 0; other < State.NODES; other++) {
                boolean isLoan = node < 4 == other >= 4;
                Check.same(node + " to " + other, x.sent(0, node, other) > 0 ? 1 : 0, isLoan ? 1 : 0);
            }
        }
    }

    /** Of 500000 by three, 2 units are over; of 83334 none. */
    private static void overToTheLowest() {
        Shelfwalk x = Nets.halvesOf(1, 1, 1);
        Check.same("to the lowest", x.sent(0, 0, 4), 166668 + 27778);
        Check.same("to the second", x.sent(0, 0, 5), 166666 + 27778);
        Check.same("to the last", x.sent(0, 0, 6), 166666 + 27778);
        Check.same("by the lowest", x.sent(0, 4, 0), 83334);
        Check.same("by the second", x.sent(0, 5, 0), 83333);
        Check.same("by the last, which had got more ahead of its push", x.sent(0, 6, 0), 97222);
    }

    /** Of -72917, sent by 1 and 2, -48611.33 go to the second, and -24305.67 and what is over to the first. */
    private static void belowZeroTowardZero() {
        Shelfwalk x = Nets.halvesOf(1);
        x.loan(0, 1, 2);
        Check.same("to the first", x.sent(0, 0, 4), 208334 - 24306 + 30672);
        Check.same("to the second", x.sent(0, 0, 5), 416666 - 48611 + 61342);
        Check.same("by the first", x.sent(0, 4, 0), 312500 - 208333);
        Check.same("by the second", x.sent(0, 5, 0), 184028);
        Check.same("rest of the first", x.rest(0, 4), 6366);
        Check.same("rest of the second", x.rest(0, 5), 61342);
        Check.same("landed at the reader", x.landed(0, 0), 625000 - 72916 + 92014);
    }

    /** What a node got, and had at first, landed there, is its rest, or was sent by it. */
    private static void allThisIsSent() {
        Shelfwalk x = Nets.rough();
        for (int node = 0; node < State.NODES; node++) {
            int got = node == 0 ? 1000000 : 0;
            int sent = 0;
            for (int other = 0; other < State.NODES; other++) {
                got += x.sent(0, other, node);
                sent += x.sent(0, node, other);
            }
            Check.same("node " + node, x.landed(0, node) + x.rest(0, node) + sent, got);
        }
    }

    private static void toItself() {
        Shelfwalk x = Nets.halves();
        for (int reader = 0; reader < State.READERS; reader++) {
            Check.same("to itself", x.sent(reader, reader, reader), 500000 + 250000 + 125000 + 62500);
        }
        x.loan(1, 0, 1);
        Check.same("no more, with a loan", x.sent(1, 1, 1), 0);
        Check.same("still, in another's walk", x.sent(0, 0, 0), 937500);
    }

    /** Of 625000 the second of 98 and 1 gets 6313.13: settled already, so nothing is pushed behind it. */
    private static void sentAnew() {
        Shelfwalk x = Nets.halvesOf(98);
        Check.same("all to the one book", x.sent(0, 0, 4), 625000);
        x.loan(0, 1, 1);
        Check.same("to the second", x.sent(0, 0, 5), 6313);
        Check.same("to the first", x.sent(0, 0, 4), 618687);
        Check.same("rest of the second", x.rest(0, 5), 6313);
        Check.same("rest of the first", x.rest(0, 4), -6313);
        Check.same("the second sent nothing", x.sent(0, 5, 0), 0);
    }

    /** Of 583334 by 10, 12 and 10, the books get 182291.88, 218750.25 and 182291.88: 2 units are over. */
    private static void mendedOver() {
        Shelfwalk x = Nets.halvesOf(10, 10, 10);
        x.loan(0, 1, 2);
        Check.same("to the lowest", x.sent(0, 0, 4), 182291 + 2);
        Check.same("to the second", x.sent(0, 0, 5), 218750);
        Check.same("to the last", x.sent(0, 0, 6), 182291);
        Check.same("rest of the lowest", x.rest(0, 4), 27778 - 194446 + 182293);
        Check.same("rest of the second", x.rest(0, 5), 27778 - 194444 + 218750);
        Check.same("rest of the last", x.rest(0, 6), -194444 + 182291);
    }

    /** 500000 and 104167 were sent in two, by 1 and 5: anew, of 604167, the second gets 503472 and not 503471. */
    private static void allNodesAreMended() {
        Shelfwalk x = Nets.halvesOf(1, 5);
        Check.same("to the second", x.sent(0, 0, 5), 416666 + 86805);
        x.loan(3, 4, 1);
        Check.same("to the second, anew", x.sent(0, 0, 5), 503472);
        Check.same("to the first, anew", x.sent(0, 0, 4), 604167 - 503472);
        Check.same("rest of the first", x.rest(0, 4), -1);
        Check.same("rest of the second", x.rest(0, 5), 86806);
    }
}
