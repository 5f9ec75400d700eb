/** Promise 12: way. */
final class Promise12WayTest {
    public static void main(String[] args) {
        Check.held(12, "Tells a way from a reader to a book, by what ways carry, greater ones first",
            Promise12WayTest::greaterFirst);
        Check.held(12, "then by the earlier book, then by the other reader.", Promise12WayTest::thenByNumbers);
        Check.held(12, "`reader`: 0 to 3", Promise12WayTest::readers);
        Check.held(12, "`book`: 0 to 4", Promise12WayTest::books);
        Check.held(12, "`place`: 0 for the first one", Promise12WayTest::places);
        Check.held(12, "`what`: 0 the earlier book; 1 the other reader; 2 what it carries", Promise12WayTest::whats);
        Check.held(12, "0 the earlier book", Promise12WayTest::earlierBook);
        Check.held(12, "1 the other reader", Promise12WayTest::otherReader);
        Check.held(12, "2 what it carries", Promise12WayTest::whatItCarries);
        Check.held(12, "Returns the number", Promise12WayTest::most);
        Check.held(12, "NONE if there are not so many.", Promise12WayTest::notSoMany);
        Check.held(12, "Throws `IndexOutOfBoundsException` if there is no such reader or book, or place is below 0",
            Promise12WayTest::noSuchReaderBookOrPlace);
        Check.held(12, "Throws `IllegalArgumentException` if what is out of range", Promise12WayTest::whatOutOfRange);
        Check.held(12, "If several exceptions apply, the one that is documented first is thrown.",
            Promise12WayTest::severalExceptions);
        Check.held(12, "IndexOutOfBoundsException is thrown where there is no such reader, book, node, or place",
            Promise12WayTest::indexes);
        Check.held(12, "IllegalArgumentException if another argument is out of range.",
            Promise12WayTest::otherArguments);
        Check.held(12, "is from the reader to the earlier book, to the other reader, to the book",
            Promise12WayTest::threeLoans);
        Check.held(12, "all loans of books that are not CLOSED", Promise12WayTest::notClosed);
        Check.held(12, "all four nodes are unlike.", Promise12WayTest::unlike);
        Check.held(12, "rounded down each time", Promise12WayTest::roundedEachTime);
        Check.held(12, "divided by the weights of all neighbours of the reader", Promise12WayTest::openNeighbours);
        Check.held(12, "a way that carries 0 is one, too.", Promise12WayTest::carriesNothing);
        Check.end("Promise12WayTest");
    }

    private static void checkWay(String what, Shelfwalk x, int place, int earlier, int other, int carried) {
        Check.same(what + ", the earlier book", x.way(0, 1, place, 0), earlier);
        Check.same(what + ", the other reader", x.way(0, 1, place, 1), other);
        Check.same(what + ", what it carries", x.way(0, 1, place, 2), carried);
    }

    private static void checkNone(String what, Shelfwalk x, int place) {
        checkWay(what, x, place, Shelfwalk.NONE, Shelfwalk.NONE, Shelfwalk.NONE);
    }

    /** One way, over book 0 and reader 1, to book 1. */
    private static Shelfwalk oneWay() {
        Shelfwalk x = new Shelfwalk();
        x.loan(0, 0, 3);
        x.loan(1, 0, 2);
        x.loan(1, 1, 4);
        return x;
    }

    private static void greaterFirst() {
        Shelfwalk x = oneWay();
        checkWay("3 of 3, 2 of 5, 4 of 6", x, 0, 0, 1, 266666);
        x.loan(0, 2, 4);
        x.loan(2, 2, 8);
        x.loan(2, 1, 8);
        checkWay("4 of 7, 8 of 12, 8 of 16", x, 0, 2, 2, 190476);
        checkWay("3 of 7, 2 of 5, 4 of 6", x, 1, 0, 1, 114285);
        checkNone("behind both", x, 2);
    }

    private static void thenByNumbers() {
        Shelfwalk x = new Shelfwalk();
        for (int reader = 3; reader >= 0; reader--) {
            x.loan(reader, 4, 2);
            x.loan(reader, 2, 2);
        }
        for (int reader = 3; reader >= 1; reader--) {
            x.loan(reader, 1, 4);
        }
        int[][] due = {{2, 1}, {2, 2}, {2, 3}, {4, 1}, {4, 2}, {4, 3}};
        for (int place = 0; place < due.length; place++) {
            checkWay("place " + place, x, place, due[place][0], due[place][1], 62500);
        }
        checkNone("no more", x, 6);
    }

    private static void readers() {
        Shelfwalk x = new Shelfwalk();
        x.loan(0, 0, 1);
        x.loan(3, 0, 1);
        x.loan(0, 1, 1);
        x.loan(3, 2, 1);
        Check.same("of the lowest, over the highest", x.way(0, 2, 0, 1), 3);
        Check.same("of the highest, over the lowest", x.way(3, 1, 0, 1), 0);
        Check.thrown("one below", Check.INDEX, () -> x.way(-1, 0, 0, 0));
        Check.thrown("one beyond", Check.INDEX, () -> x.way(4, 0, 0, 0));
    }

    private static void books() {
        Shelfwalk x = new Shelfwalk();
        x.loan(0, 0, 1);
        x.loan(1, 0, 1);
        x.loan(1, 4, 1);
        Check.same("to the highest, over the lowest", x.way(0, 4, 0, 0), 0);
        x.loan(2, 4, 1);
        x.loan(1, 4, 1);
        Check.same("to the lowest, over the highest", x.way(2, 0, 0, 0), 4);
        Check.thrown("one below", Check.INDEX, () -> x.way(0, -1, 0, 0));
        Check.thrown("one beyond", Check.INDEX, () -> x.way(0, 5, 0, 0));
    }

    private static void places() {
        Shelfwalk x = oneWay();
        checkWay("the first", x, 0, 0, 1, 266666);
        checkNone("behind the last", x, 1);
        checkNone("the greatest place", x, Integer.MAX_VALUE);
        Check.thrown("one below", Check.INDEX, () -> x.way(0, 1, -1, 0));
    }

    private static void whats() {
        Shelfwalk x = new Shelfwalk();
        x.loan(0, 3, 3);
        x.loan(2, 3, 2);
        x.loan(2, 1, 4);
        checkWay("each of them", x, 0, 3, 2, 266666);
        Check.thrown("one below", Check.ARGUMENT, () -> x.way(0, 1, 0, -1));
        Check.thrown("one beyond", Check.ARGUMENT, () -> x.way(0, 1, 0, 3));
    }

    private static void earlierBook() {
        for (int earlier = 0; earlier < State.BOOKS; earlier++) {
            int book = earlier == 4 ? 0 : 4;
            Shelfwalk x = new Shelfwalk();
            x.loan(1, earlier, 1);
            x.loan(2, earlier, 1);
            x.loan(2, book, 1);
            Check.same("over book " + earlier, x.way(1, book, 0, 0), earlier);
        }
    }

    private static void otherReader() {
        for (int other = 0; other < State.READERS; other++) {
            int reader = other == 3 ? 0 : 3;
            Shelfwalk x = new Shelfwalk();
            x.loan(reader, 1, 1);
            x.loan(other, 1, 1);
            x.loan(other, 2, 1);
            Check.same("over reader " + other, x.way(reader, 2, 0, 1), other);
        }
    }

        private static void whatItCarries() {
        Shelfwalk x = new Shelfwalk();
        x.loan(0, 0, 1);
        x.loan(1, 0, 99);
        x.loan(1, 1, 99);
        Check.same("1 of 1, 99 of 100, 99 of 198", x.way(0, 1, 0, 2), 990000 / 2);
        x.strike(1, 1);
        x.loan(1, 1, 1);
        Check.same("1 of 1, 99 of 100, 1 of 100", x.way(0, 1, 0, 2), 9900);
        x.strike(1, 0);
        x.loan(1, 0, 1);
        x.loan(0, 0, 98);
        Check.same("99 of 99, 1 of 100, 1 of 2", x.way(0, 1, 0, 2), 5000);
    }

    /** Over four books and three readers, in the full net. */
    private static void most() {
        Shelfwalk x = Nets.full();
        checkWay("the first", x, 0, 0, 1, 200000 / 4 / 5);
        checkWay("the last", x, 11, 4, 3, 10000);
        checkNone("behind the last", x, 12);
    }

    private static void notSoMany() {
        checkNone("in the empty net", Nets.empty(), 0);
        Shelfwalk x = new Shelfwalk();
        x.loan(0, 0, 1);
        checkNone("without another reader", x, 0);
        x.loan(1, 1, 1);
        checkNone("without the second loan", x, 0);
        Shelfwalk y = new Shelfwalk();
        y.loan(0, 0, 1);
        y.loan(1, 0, 1);
        checkNone("without the third one", y, 0);
        Shelfwalk z = new Shelfwalk();
        z.loan(1, 0, 1);
        z.loan(1, 1, 1);
        checkNone("without the first one", z, 0);
    }

    private static void noSuchReaderBookOrPlace() {
        for (int wrong : new int[] {-1, 4, Integer.MIN_VALUE, Integer.MAX_VALUE}) {
            Check.refused("reader " + wrong, Check.INDEX, Nets::rough, x -> x.way(wrong, 0, 0, 0));
        }
        for (int wrong : new int[] {-1, 5, Integer.MIN_VALUE, Integer.MAX_VALUE}) {
            Check.refused("book " + wrong, Check.INDEX, Nets::rough, x -> x.way(0, wrong, 0, 0));
        }
        for (int wrong : new int[] {-1, Integer.MIN_VALUE}) {
            Check.refused("place " + wrong, Check.INDEX, Nets::rough, x -> x.way(0, 0, wrong, 0));
        }
        Check.thrown("in the empty net", Check.INDEX, () -> new Shelfwalk().way(0, 0, -1, 0));
    }

    private static void whatOutOfRange() {
        for (int wrong : new int[] {-1, 3, Integer.MIN_VALUE, Integer.MAX_VALUE}) {
            Check.refused("what " + wrong, Check.ARGUMENT, Nets::rough, x -> x.way(0, 0, 0, wrong));
            Check.refused("behind the last way", Check.ARGUMENT, Nets::rough, x -> x.way(0, 0, 99, wrong));
            Check.refused("without a way", Check.ARGUMENT, Nets::empty, x -> x.way(0, 0, 0, wrong));
        }
    }

    private static void severalExceptions() {
        Shelfwalk x = Nets.full();
        Check.thrown("reader and what", Check.INDEX, () -> x.way(4, 0, 0, 3));
        Check.thrown("book and what", Check.INDEX, () -> x.way(0, 5, 0, -1));
        Check.thrown("place and what", Check.INDEX, () -> x.way(0, 0, -1, 3));
        Check.thrown("all four", Check.INDEX, () -> x.way(-1, -1, -1, -1));
    }

    private static void indexes() {
        Shelfwalk x = new Shelfwalk();
        Check.thrown("reader", Check.INDEX, () -> x.way(4, 0, 0, 0));
        Check.thrown("book", Check.INDEX, () -> x.way(0, 5, 0, 0));
        Check.thrown("node", Check.INDEX, () -> x.landed(0, 9));
        Check.thrown("place", Check.INDEX, () -> x.way(0, 0, -1, 0));
    }

    private static void otherArguments() {
        Shelfwalk x = new Shelfwalk();
        Check.thrown("weight", Check.ARGUMENT, () -> x.loan(0, 0, 100));
        Check.thrown("how", Check.ARGUMENT, () -> x.bar(0, 3));
        Check.thrown("damping", Check.ARGUMENT, () -> x.walk(91, 1000));
        Check.thrown("bound", Check.ARGUMENT, () -> x.walk(80, 100001));
        Check.thrown("what", Check.ARGUMENT, () -> x.way(0, 0, 0, 3));
    }

    private static void threeLoans() {
        Shelfwalk x = oneWay();
        checkWay("with all three", x, 0, 0, 1, 266666);
        for (int[] loan : new int[][] {{0, 0}, {1, 0}, {1, 1}}) {
            Shelfwalk less = oneWay();
            less.strike(loan[0], loan[1]);
            checkNone("without one of them", less, 0);
        }
        Check.same("not the other way round, from reader 1", x.way(1, 0, 0, 0), Shelfwalk.NONE);
    }

    private static void notClosed() {
        Shelfwalk x = oneWay();
        x.bar(0, Shelfwalk.HIDDEN);
        x.bar(1, Shelfwalk.HIDDEN);
        checkWay("HIDDEN ones", x, 0, 0, 1, 266666);
        x.bar(1, Shelfwalk.CLOSED);
        checkNone("to a CLOSED book", x, 0);
        x.bar(1, Shelfwalk.OPEN);
        x.bar(0, Shelfwalk.CLOSED);
        checkNone("over a CLOSED book", x, 0);
        x.bar(0, Shelfwalk.OPEN);
        checkWay("OPEN again", x, 0, 0, 1, 266666);
    }

    private static void unlike() {
        Shelfwalk x = new Shelfwalk();
        x.loan(0, 0, 1);
        x.loan(0, 1, 1);
        checkNone("not over the reader itself, nor the book itself", x, 0);
        x.loan(1, 0, 1);
        x.loan(1, 1, 1);
        checkWay("to a book of its own, over the other one alone", x, 0, 0, 1, 125000);
        checkNone("no more", x, 1);
    }

    /** 1 of 2, 1 of 3, 2 of 3: 500000, 166666, 111110; rounded once it would be 111111. */
    private static void roundedEachTime() {
        Shelfwalk x = new Shelfwalk();
        x.loan(0, 0, 1);
        x.loan(0, 4, 1);
        x.loan(1, 0, 1);
        x.loan(2, 0, 1);
        x.loan(1, 1, 2);
        checkWay("rounded three times", x, 0, 0, 1, 111110);
    }

    private static void openNeighbours() {
        Shelfwalk x = oneWay();
        x.loan(0, 2, 3);
        x.loan(1, 3, 6);
        checkWay("3 of 6, 2 of 5, 4 of 12", x, 0, 0, 1, 66666);
        x.bar(2, Shelfwalk.HIDDEN);
        x.bar(3, Shelfwalk.HIDDEN);
        checkWay("HIDDEN ones have weights", x, 0, 0, 1, 66666);
        x.bar(2, Shelfwalk.CLOSED);
        checkWay("a CLOSED one has none: 3 of 3, 2 of 5, 4 of 12", x, 0, 0, 1, 133333);
        x.bar(3, Shelfwalk.CLOSED);
        checkWay("nor has the other: 3 of 3, 2 of 5, 4 of 6", x, 0, 0, 1, 266666);
    }

    /** 1 of 397, 1 of 200, 1 of 299: 2518, 12, 0. */
    private static void carriesNothing() {
        Shelfwalk x = new Shelfwalk();
        for (int reader = 0; reader < State.READERS; reader++) {
            for (int book = 0; book < State.BOOKS; book++) {
                boolean isLight = reader == 0 && book == 0 || reader == 1 && book <= 1;
                x.loan(reader, book, isLight ? 1 : 99);
            }
        }
        checkWay("the last of twelve", x, 11, 0, 1, 0);
        checkNone("behind it", x, 12);
    }
}
