/** Promise 3: strike. */
final class Promise03StrikeTest {
    public static void main(String[] args) {
        Check.held(3, "Strikes a loan out.", Promise03StrikeTest::goes);
        Check.held(3, "`reader`: 0 to 3", Promise03StrikeTest::readers);
        Check.held(3, "`book`: 0 to 4", Promise03StrikeTest::books);
        Check.held(3, "Returns its weight.", Promise03StrikeTest::weights);
        Check.held(3, "Throws `IndexOutOfBoundsException` if there is no such reader or book",
            Promise03StrikeTest::noSuchReaderOrBook);
        Check.held(3, "Throws `IllegalStateException` if there is no such loan", Promise03StrikeTest::noSuchLoan);
        Check.held(3, "If several exceptions apply, the one that is documented first is thrown.",
            Promise03StrikeTest::severalExceptions);
        Check.held(3, "strikes one out", Promise03StrikeTest::mends);
        Check.held(3, "whatever it changed, rests are mended, in each walk", Promise03StrikeTest::mendsWithoutChange);
        Check.held(3, "A node without neighbours has the reader whose walk it is as its neighbour",
            Promise03StrikeTest::lastLoanGoes);
        Check.end("Promise03StrikeTest");
    }

    private static void goes() {
        Shelfwalk x = Nets.full();
        x.strike(2, 3);
        Check.same("the loan", State.text(x, 2, 3), "none");
        Check.same("its book is listed", x.listed(2, 0), 3);
        x.walk(80, 1000);
        Check.same("nothing is sent by the reader", x.sent(2, 2, 7), 0);
        Check.same("nothing is sent by the book", x.sent(2, 7, 2), 0);
        Check.same("all others are left", x.fade(), 19);
    }

    private static void readers() {
        Shelfwalk x = Nets.full();
        Check.same("the lowest", x.strike(0, 2), 99);
        Check.same("the highest", x.strike(3, 2), 99);
        Check.same("text of the lowest", State.text(x, 0, 2), "none");
        Check.same("text of the highest", State.text(x, 3, 2), "none");
        Check.thrown("one below", Check.INDEX, () -> x.strike(-1, 2));
        Check.thrown("one beyond", Check.INDEX, () -> x.strike(4, 2));
    }

    private static void books() {
        Shelfwalk x = Nets.full();
        Check.same("the lowest", x.strike(1, 0), 99);
        Check.same("the highest", x.strike(1, 4), 99);
        Check.same("text of the lowest", State.text(x, 1, 0), "none");
        Check.same("text of the highest", State.text(x, 1, 4), "none");
        Check.thrown("one below", Check.INDEX, () -> x.strike(1, -1));
        Check.thrown("one beyond", Check.INDEX, () -> x.strike(1, 5));
    }

    private static void weights() {
        Shelfwalk x = new Shelfwalk();
        x.loan(0, 0, 1);
        x.loan(0, 1, 99);
        x.loan(0, 2, 98);
        x.loan(0, 2, 98);
        x.loan(1, 3, 12);
        x.bar(3, Shelfwalk.CLOSED);
        Check.same("the smallest", x.strike(0, 0), 1);
        Check.same("the largest", x.strike(0, 1), 99);
        Check.same("made heavier", x.strike(0, 2), 99);
        Check.same("of a CLOSED book", x.strike(1, 3), 12);
        x.loan(0, 0, 7);
        x.fade();
        Check.same("come anew, and faded", x.strike(0, 0), 3);
    }

    private static void noSuchReaderOrBook() {
        for (int wrong : new int[] {-1, 4, Integer.MIN_VALUE, Integer.MAX_VALUE}) {
            Check.refused("reader " + wrong, Check.INDEX, Nets::rough, x -> x.strike(wrong, 0));
        }
        for (int wrong : new int[] {-1, 5, Integer.MIN_VALUE, Integer.MAX_VALUE}) {
            Check.refused("book " + wrong, Check.INDEX, Nets::rough, x -> x.strike(0, wrong));
        }
        Check.refused("the full net", Check.INDEX, Nets::full, x -> x.strike(4, 4));
    }

    private static void noSuchLoan() {
        for (int reader = 0; reader < State.READERS; reader++) {
            int of = reader;
            for (int book = 0; book < State.BOOKS; book++) {
                int lent = book;
                Check.thrown("in the empty net", Check.STATE, () -> new Shelfwalk().strike(of, lent));
            }
        }
        Check.refused("no loan", Check.STATE, Nets::rough, x -> x.strike(0, 3));
        Check.refused("of a CLOSED book", Check.STATE, Nets::rough, x -> x.strike(3, 4));
        Check.refused("the empty net", Check.STATE, Nets::empty, x -> x.strike(0, 0));
        Check.refused("struck out", Check.STATE, Promise03StrikeTest::struck, x -> x.strike(1, 1));
        Check.refused("faded", Check.STATE, Promise03StrikeTest::faded, x -> x.strike(1, 1));
    }

    private static Shelfwalk struck() {
        Shelfwalk x = Nets.full();
        x.strike(1, 1);
        return x;
    }

    private static Shelfwalk faded() {
        Shelfwalk x = Nets.fullOf(2);
        x.strike(1, 1);
        x.loan(1, 1, 1);
        x.fade();
        return x;
    }

    private static void severalExceptions() {
        Check.refused("no reader, and so no loan", Check.INDEX, Nets::rough, x -> x.strike(4, 3));
        Check.refused("no book, and so no loan", Check.INDEX, Nets::empty, x -> x.strike(0, 5));
    }

    /** By halves: what was sent to the book is taken back, and is below 0 there. */
    private static void mends() {
        Shelfwalk x = Nets.halvesOf(1);
        Check.same("sent to the book", x.sent(0, 0, 4), 625000);
        Check.same("sent back", x.sent(0, 4, 0), 312500);
        x.strike(0, 0);
        // 687500, 343750 and 171875 at the reader, -625000 at the book, -226562 and -113281 at the reader
        Check.same("landed at the reader", x.landed(0, 0), 1056641);
        Check.same("landed at the book", x.landed(0, 4), 0);
        Check.same("rest, halved toward 0", x.rest(0, 0), -56641);
        Check.same("rest of the book", x.rest(0, 4), 0);
        Check.same("nothing is sent to the book", x.sent(0, 0, 4), 0);
    }

    private static void mendsWithoutChange() {
        Nets.checkMended("the loan of a CLOSED book", x -> Check.same("goes", x.strike(2, 4), 12));
    }

    /** The reader's and the book's node are without neighbours again: both send to the reader. */
    private static void lastLoanGoes() {
        Shelfwalk x = Nets.halvesOf(1);
        x.strike(0, 0);
        Check.same("sent to itself", x.sent(0, 0, 0), 625000 + 343750 + 171875 + 85938 - 113281 - 56641);
        Check.same("sent by the book", x.sent(0, 4, 0), 312500 - 312500);
        x.loan(3, 3, 4);
        x.loan(3, 4, 3);
        x.walk(50, 50000);
        Check.same("got by node 7", x.sent(3, 3, 7), 361518);
        Check.same("sent by node 7, in two pushes of odd rests", x.sent(3, 7, 3), 180760);
        x.strike(3, 3);
        // -361518 are pushed there in one: -180759 are sent to the reader of the walk, not to the lowest node.
        Check.same("sent to reader 3", x.sent(3, 7, 3), 1);
        Check.same("sent to reader 0", x.sent(3, 7, 0), 0);
        Check.same("landed at reader 0", x.landed(3, 0), 0);
    }
}
