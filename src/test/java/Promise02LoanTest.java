/** Promise 2: loan. */
final class Promise02LoanTest {
    public static void main(String[] args) {
        Check.held(2, "Makes a loan heavier", Promise02LoanTest::heavier);
        Check.held(2, "without one it comes.", Promise02LoanTest::comes);
        Check.held(2, "`reader`: 0 to 3", Promise02LoanTest::readers);
        Check.held(2, "`book`: 0 to 4", Promise02LoanTest::books);
        Check.held(2, "`weight`: 1 to 99: by how much", Promise02LoanTest::weights);
        Check.held(2, "Returns its weight, at most 99.", Promise02LoanTest::atMost99);
        Check.held(2, "Throws `IndexOutOfBoundsException` if there is no such reader or book",
            Promise02LoanTest::noSuchReaderOrBook);
        Check.held(2, "Throws `IllegalArgumentException` if weight is out of range",
            Promise02LoanTest::weightOutOfRange);
        Check.held(2, "If several exceptions apply, the one that is documented first is thrown.",
            Promise02LoanTest::severalExceptions);
        Check.held(2, "A loan is of a reader and a book, with a weight, 1 to 99", Promise02LoanTest::lightAndHeavy);
        Check.held(2, "the two are neighbours with it.", Promise02LoanTest::neighbours);
        Check.held(2, "Readers are 0 to 3, books 0 to 4", Promise02LoanTest::allTwenty);
        Check.held(2, "the nodes 0 to 3 are the readers, 4 to 8 the books.", Promise02LoanTest::nodes);
        Check.held(2, "Behind each call that tells a loan", Promise02LoanTest::mends);
        Check.held(2, "whatever it changed, rests are mended, in each walk", Promise02LoanTest::mendsWithoutChange);
        Check.held(2, "A loan is of a reader and a book", Promise02LoanTest::fullNet);
        Check.held(2, "An object is used for at most 512 calls", Promise02LoanTest::lastCall);
        Check.end("Promise02LoanTest");
    }

    private static void heavier() {
        Shelfwalk x = new Shelfwalk();
        x.loan(1, 2, 3);
        x.loan(2, 1, 5);
        Check.same("by 4", x.loan(1, 2, 4), 7);
        Check.same("by 1", x.loan(1, 2, 1), 8);
        Check.same("text", State.text(x, 1, 2), "r1-b2:8 open");
        Check.same("the other is as it was", State.text(x, 2, 1), "r2-b1:5 open");
        x.bar(2, Shelfwalk.CLOSED);
        Check.same("of a CLOSED book", x.loan(1, 2, 8), 16);
    }

    private static void comes() {
        Shelfwalk x = new Shelfwalk();
        Check.same("the first one", x.loan(0, 0, 6), 6);
        Check.same("text", State.text(x, 0, 0), "r0-b0:6 open");
        x.strike(0, 0);
        Check.same("anew behind a strike", x.loan(0, 0, 2), 2);
        x.fade();
        x.fade();
        Check.same("anew when it has faded", x.loan(0, 0, 3), 3);
        x.bar(1, Shelfwalk.CLOSED);
        Check.same("of a CLOSED book", x.loan(0, 1, 4), 4);
        Check.same("its text", State.text(x, 0, 1), "r0-b1:4 closed");
    }

    private static void readers() {
        Shelfwalk x = new Shelfwalk();
        Check.same("the lowest", x.loan(0, 2, 5), 5);
        Check.same("the highest", x.loan(3, 2, 6), 6);
        Check.same("text of the lowest", State.text(x, 0, 2), "r0-b2:5 open");
        Check.same("text of the highest", State.text(x, 3, 2), "r3-b2:6 open");
        Check.thrown("one below", Check.INDEX, () -> x.loan(-1, 2, 1));
        Check.thrown("one beyond", Check.INDEX, () -> x.loan(4, 2, 1));
    }

    private static void books() {
        Shelfwalk x = new Shelfwalk();
        Check.same("the lowest", x.loan(1, 0, 5), 5);
        Check.same("the highest", x.loan(1, 4, 6), 6);
        Check.same("text of the lowest", State.text(x, 1, 0), "r1-b0:5 open");
        Check.same("text of the highest", State.text(x, 1, 4), "r1-b4:6 open");
        Check.thrown("one below", Check.INDEX, () -> x.loan(1, -1, 1));
        Check.thrown("one beyond", Check.INDEX, () -> x.loan(1, 5, 1));
    }

    private static void weights() {
        Shelfwalk x = new Shelfwalk();
        Check.same("the smallest", x.loan(0, 0, 1), 1);
        Check.same("the smallest once more", x.loan(0, 0, 1), 2);
        Check.same("the largest", x.loan(0, 1, 99), 99);
        Check.thrown("one below", Check.ARGUMENT, () -> x.loan(0, 2, 0));
        Check.thrown("one beyond", Check.ARGUMENT, () -> x.loan(0, 2, 100));
        Check.same("neither came", State.text(x, 0, 2), "none");
    }

    private static void atMost99() {
        Shelfwalk x = new Shelfwalk();
        x.loan(0, 0, 97);
        Check.same("97 by 1", x.loan(0, 0, 1), 98);
        Check.same("98 by 1", x.loan(0, 0, 1), 99);
        Check.same("99 by 1", x.loan(0, 0, 1), 99);
        Check.same("99 by 99", x.loan(0, 0, 99), 99);
        x.loan(1, 0, 50);
        Check.same("50 by 50", x.loan(1, 0, 50), 99);
        Check.same("text", State.text(x, 0, 0), "r0-b0:99 open");
        Check.same("struck out", x.strike(0, 0), 99);
        x.fade();
        Check.same("faded", x.strike(1, 0), 49);
    }

    private static void noSuchReaderOrBook() {
        for (int wrong : new int[] {-1, 4, Integer.MIN_VALUE, Integer.MAX_VALUE}) {
            Check.refused("reader " + wrong, Check.INDEX, Nets::rough, x -> x.loan(wrong, 0, 1));
        }
        for (int wrong : new int[] {-1, 5, Integer.MIN_VALUE, Integer.MAX_VALUE}) {
            Check.refused("book " + wrong, Check.INDEX, Nets::rough, x -> x.loan(0, wrong, 1));
        }
        Check.refused("the empty net", Check.INDEX, Nets::empty, x -> x.loan(4, 5, 1));
        Check.refused("the full net", Check.INDEX, Nets::full, x -> x.loan(3, 5, 1));
    }

    private static void weightOutOfRange() {
        for (int wrong : new int[] {0, -1, 100, Integer.MIN_VALUE, Integer.MAX_VALUE}) {
            Check.refused("weight " + wrong, Check.ARGUMENT, Nets::rough, x -> x.loan(0, 0, wrong));
            Check.refused("weight " + wrong + " of 99", Check.ARGUMENT, Nets::rough, x -> x.loan(2, 2, wrong));
            Check.refused("weight " + wrong + " of none", Check.ARGUMENT, Nets::empty, x -> x.loan(0, 0, wrong));
        }
    }

    private static void severalExceptions() {
        Check.refused("reader and weight", Check.INDEX, Nets::rough, x -> x.loan(4, 0, 0));
        Check.refused("book and weight", Check.INDEX, Nets::rough, x -> x.loan(0, 5, 100));
        Check.refused("all three", Check.INDEX, Nets::rough, x -> x.loan(-1, -1, -1));
    }

    private static void lightAndHeavy() {
        Shelfwalk x = new Shelfwalk();
        x.loan(0, 0, 1);
        x.loan(0, 1, 99);
        x.walk(50, 100000);
        // Of 500000, sent first, a 100th and the rest; and of 123750, the half of what comes back.
        Check.same("sent by the lightest", x.sent(0, 0, 4), 5000 + 1237 + 1);
        Check.same("sent by the heaviest", x.sent(0, 0, 5), 495000 + 122512);
    }

    private static void neighbours() {
        Shelfwalk x = new Shelfwalk();
        x.loan(2, 3, 4);
        Check.holds("the reader sends to the book", x.sent(2, 2, 7) > 0);
        Check.holds("the book sends to the reader", x.sent(2, 7, 2) > 0);
        Check.same("the reader to itself", x.sent(2, 2, 2), 0);
        Check.same("the book to itself", x.sent(2, 7, 7), 0);
    }

    private static void allTwenty() {
        for (int reader = 0; reader < State.READERS; reader++) {
            for (int book = 0; book < State.BOOKS; book++) {
                Shelfwalk x = new Shelfwalk();
                Check.same("comes", x.loan(reader, book, 9), 9);
                Check.same("text", State.text(x, reader, book), "r" + reader + "-b" + book + ":9 open");
                Check.same("is the only one", x.fade(), 1);
            }
        }
    }

    private static void nodes() {
        for (int reader = 0; reader < State.READERS; reader++) {
            for (int book = 0; book < State.BOOKS; book++) {
                Shelfwalk x = new Shelfwalk();
                x.loan(reader, book, 9);
                x.walk(50, 100000);
                for (int node = 0; node < State.NODES; node++) {
                    int due = node == reader ? 625000 : node == 4 + book ? 312500 : 0;
                    Check.same("landed at " + node, x.landed(reader, node), due);
                }
            }
        }
    }

    private static void mends() {
        Shelfwalk x = new Shelfwalk();
        x.loan(0, 0, 3);
        Check.same("landed at the reader", x.landed(0, 0), 555110);
        Check.same("landed at the book", x.landed(0, 4), 443898);
        Check.same("rest of the reader", x.rest(0, 0), 0);
        Check.same("rest of the book", x.rest(0, 4), 992);
        Check.same("sent to itself", x.sent(0, 0, 0), 0);
        Check.same("sent to the book", x.sent(0, 0, 4), 2220511);
        Check.same("sent back", x.sent(0, 4, 0), 1775621);
        Check.same("another's walk", x.landed(1, 1), 999008);
        Check.same("31 pushes more", x.pushes(), 155);
    }

    private static void mendsWithoutChange() {
        Nets.checkMended("a weight that stays 99", x -> Check.same("stays", x.loan(2, 2, 1), 99));
        Nets.checkMended("a loan of a CLOSED book", x -> Check.same("comes", x.loan(0, 4, 1), 1));
    }

    /** All twenty loans, of which one is as light and all others are as heavy as can be, with the most pushes. */
    private static void fullNet() {
        Reference due = new Reference();
        tellFullNet(due);
        Check.same("all that it answers", State.of(Promise02LoanTest::fullAndRough), State.ofAsked(() -> due));
    }

    private static Shelfwalk fullAndRough() {
        Shelfwalk x = new Shelfwalk();
        tellFullNet(new Asking(x));
        return x;
    }

    private static void tellFullNet(Asked x) {
        x.walk(90, 100);
        for (int reader = 0; reader < State.READERS; reader++) {
            for (int book = 0; book < State.BOOKS; book++) {
                x.loan(reader, book, reader == 1 && book == 2 ? 1 : 99);
            }
        }
    }

    /** The call 512 answers by all calls ahead of it. */
    private static void lastCall() {
        Shelfwalk x = new Shelfwalk();
        Reference due = new Reference();
        for (int call = 1; call < 512; call++) {
            int reader = call % 4;
            int book = call % 5;
            if (call % 3 == 0) {
                Check.same("bar", x.bar(book, call % 7 % 3), due.bar(book, call % 7 % 3));
            } else {
                Check.same("loan", x.loan(reader, book, 1 + call % 9), due.loan(reader, book, 1 + call % 9));
            }
        }
        Check.same("the last call", x.sent(1, 1, 8), due.sent(1, 1, 8));
    }
}
