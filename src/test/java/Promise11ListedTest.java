/** Promise 11: listed. */
final class Promise11ListedTest {
    public static void main(String[] args) {
        Check.held(11, "Returns a book of a list.", Promise11ListedTest::ofTheReader);
        Check.held(11, "`reader`: 0 to 3", Promise11ListedTest::readers);
        Check.held(11, "`place`: 0 for the first one", Promise11ListedTest::places);
        Check.held(11, "Returns the book", Promise11ListedTest::fullList);
        Check.held(11, "NONE if there are not so many.", Promise11ListedTest::notSoMany);
        Check.held(11, "`NONE = -1`: There is none.", Promise11ListedTest::none);
        Check.held(11, "Throws `IndexOutOfBoundsException` if there is no such reader, or place is below 0",
            Promise11ListedTest::noSuchReaderOrPlace);
        Check.held(11, "A list of a reader is of OPEN books which the reader has no loan of",
            Promise11ListedTest::openOnesWithoutLoan);
        Check.held(11, "by what landed there, greater numbers first", Promise11ListedTest::greaterFirst);
        Check.held(11, "then by numbers.", Promise11ListedTest::thenByNumbers);
        Check.held(11, "greater numbers first", Promise11ListedTest::belowZeroComesLast);
        Check.held(11, "Each reader has a walk", Promise11ListedTest::byItsOwnWalk);
        Check.end("Promise11ListedTest");
    }

    private static void checkList(String what, Shelfwalk x, int reader, int... due) {
        for (int place = 0; place <= State.BOOKS; place++) {
            int book = place < due.length ? due[place] : Shelfwalk.NONE;
            Check.same(what + ", place " + place, x.listed(reader, place), book);
        }
    }

    private static void ofTheReader() {
        Shelfwalk x = new Shelfwalk();
        x.loan(0, 0, 1);
        x.loan(1, 4, 1);
        checkList("of reader 0", x, 0, 1, 2, 3, 4);
        checkList("of reader 1", x, 1, 0, 1, 2, 3);
        checkList("of a reader without loans", x, 2, 0, 1, 2, 3, 4);
    }

    private static void readers() {
        Shelfwalk x = new Shelfwalk();
        x.loan(0, 0, 1);
        x.loan(3, 1, 1);
        Check.same("of the lowest", x.listed(0, 0), 1);
        Check.same("of the highest", x.listed(3, 0), 0);
        Check.thrown("one below", Check.INDEX, () -> x.listed(-1, 0));
        Check.thrown("one beyond", Check.INDEX, () -> x.listed(4, 0));
    }

    private static void places() {
        Shelfwalk x = new Shelfwalk();
        Check.same("the first", x.listed(0, 0), 0);
        Check.same("the last", x.listed(0, 4), 4);
        Check.same("behind the last", x.listed(0, 5), Shelfwalk.NONE);
        Check.same("the greatest place", x.listed(0, Integer.MAX_VALUE), Shelfwalk.NONE);
        Check.thrown("one below", Check.INDEX, () -> x.listed(0, -1));
    }

    private static void fullList() {
        checkList("in the empty net", Nets.empty(), 3, 0, 1, 2, 3, 4);
    }

    private static void notSoMany() {
        checkList("in the full net", Nets.full(), 0);
        Shelfwalk closed = new Shelfwalk();
        for (int book = 0; book < State.BOOKS; book++) {
            closed.bar(book, book % 2 == 0 ? Shelfwalk.CLOSED : Shelfwalk.HIDDEN);
        }
        checkList("of books all barred", closed, 0);
        closed.bar(4, Shelfwalk.OPEN);
        checkList("of one book", closed, 0, 4);
    }

    private static void none() {
        Check.same("NONE", Shelfwalk.NONE, -1);
        Check.same("in the full net", Nets.full().listed(0, 0), -1);
    }

    private static void noSuchReaderOrPlace() {
        for (int wrong : new int[] {-1, 4, Integer.MIN_VALUE, Integer.MAX_VALUE}) {
            Check.refused("reader " + wrong, Check.INDEX, Nets::rough, x -> x.listed(wrong, 0));
        }
        for (int wrong : new int[] {-1, Integer.MIN_VALUE}) {
            Check.refused("place " + wrong, Check.INDEX, Nets::rough, x -> x.listed(0, wrong));
            Check.refused("place " + wrong + " of none", Check.INDEX, Nets::full, x -> x.listed(0, wrong));
        }
        Check.thrown("both", Check.INDEX, () -> new Shelfwalk().listed(4, -1));
    }

    private static void openOnesWithoutLoan() {
        Shelfwalk x = new Shelfwalk();
        x.loan(3, 0, 1);
        x.bar(1, Shelfwalk.HIDDEN);
        x.bar(2, Shelfwalk.CLOSED);
        checkList("without its own, HIDDEN and CLOSED ones", x, 3, 3, 4);
        checkList("another's own is listed", x, 0, 0, 3, 4);
        x.bar(0, Shelfwalk.CLOSED);
        x.bar(1, Shelfwalk.OPEN);
        x.bar(2, Shelfwalk.OPEN);
        x.bar(0, Shelfwalk.OPEN);
        checkList("OPEN again", x, 3, 1, 2, 3, 4);
    }

    private static void greaterFirst() {
        Shelfwalk x = new Shelfwalk();
        x.loan(0, 0, 10);
        x.loan(1, 0, 10);
        x.loan(2, 0, 10);
        x.loan(1, 1, 5);
        x.loan(2, 1, 5);
        x.loan(2, 2, 20);
        Check.holds("more landed at 2", x.landed(0, 6) > x.landed(0, 5));
        checkList("greater numbers first", x, 0, 2, 1, 3, 4);
        x.loan(3, 4, 1);
        x.loan(3, 0, 99);
        checkList("the last one too", x, 0, 2, 1, 4, 3);
    }

    /** Books 1 and 3 have the same loans; by these bounds as much landed at both; at 2 and 4 nothing did. */
    private static void thenByNumbers() {
        Shelfwalk x = new Shelfwalk();
        x.loan(0, 0, 8);
        x.loan(1, 0, 8);
        x.loan(1, 3, 4);
        x.loan(1, 1, 4);
        x.walk(50, 100000);
        Check.same("nothing yet at book 1", x.landed(0, 5), 0);
        Check.same("nor at book 3", x.landed(0, 7), 0);
        checkList("all by numbers", x, 0, 1, 2, 3, 4);
        x.walk(50, 735);
        Check.same("as much at book 1", x.landed(0, 5), 10982);
        Check.same("as at book 3", x.landed(0, 7), 10982);
        checkList("two pairs", x, 0, 1, 3, 2, 4);
    }

    private static void belowZeroComesLast() {
        Shelfwalk x = new Shelfwalk();
        x.loan(0, 0, 3);
        x.loan(1, 0, 2);
        x.loan(1, 1, 4);
        x.bar(0, Shelfwalk.CLOSED);
        x.strike(0, 0);
        x.bar(0, Shelfwalk.OPEN);
        Check.same("below 0 at book 0", x.landed(0, 4), -12);
        Check.same("above 0 at book 1", x.landed(0, 5), 205);
        checkList("nothing is more than that", x, 0, 1, 2, 3, 4, 0);
    }

    /** Reader 0 walks to book 3, reader 1 to book 2, and the other two to none. */
    private static void byItsOwnWalk() {
        Shelfwalk x = new Shelfwalk();
        x.loan(0, 0, 1);
        x.loan(2, 0, 1);
        x.loan(2, 3, 1);
        x.loan(1, 1, 1);
        x.loan(3, 1, 1);
        x.loan(3, 2, 1);
        checkList("of reader 0", x, 0, 3, 1, 2, 4);
        checkList("of reader 1", x, 1, 2, 0, 3, 4);
        checkList("of reader 2", x, 2, 1, 2, 4);
        checkList("of reader 3", x, 3, 0, 3, 4);
    }
}
