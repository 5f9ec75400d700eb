/** Promise 14: text. */
final class Promise14TextTest {
    public static void main(String[] args) {
        Check.held(14, "Returns a sign of the text of a loan: \"r\", the reader, \"-b\", the book",
            Promise14TextTest::all);
        Check.held(14, "\":\" and the weight", Promise14TextTest::weights);
        Check.held(14, "\" open\", \" hidden\" or \" closed\" by the book's bar", Promise14TextTest::bars);
        Check.held(14, "without a loan \"none\".", Promise14TextTest::none);
        Check.held(14, "`reader`: 0 to 3", Promise14TextTest::readers);
        Check.held(14, "`book`: 0 to 4", Promise14TextTest::books);
        Check.held(14, "`place`: from 0", Promise14TextTest::places);
        Check.held(14, "Returns the sign", Promise14TextTest::signs);
        Check.held(14, "a 0 behind the last one.", Promise14TextTest::behindTheLast);
        Check.held(14, "Throws `IndexOutOfBoundsException` if there is no such reader or book, or place is below 0",
            Promise14TextTest::noSuchReaderBookOrPlace);
        Check.end("Promise14TextTest");
    }

    private static void all() {
        Shelfwalk x = Nets.full();
        for (int reader = 0; reader < State.READERS; reader++) {
            for (int book = 0; book < State.BOOKS; book++) {
                Check.same("text", State.text(x, reader, book), "r" + reader + "-b" + book + ":99 open");
            }
        }
    }

    private static void weights() {
        for (int weight : new int[] {1, 9, 10, 11, 98, 99}) {
            Shelfwalk x = new Shelfwalk();
            x.loan(1, 2, weight);
            Check.same("text", State.text(x, 1, 2), "r1-b2:" + weight + " open");
        }
    }

    private static void bars() {
        Shelfwalk x = new Shelfwalk();
        x.loan(0, 0, 5);
        x.loan(0, 1, 5);
        x.bar(0, Shelfwalk.HIDDEN);
        Check.same("HIDDEN", State.text(x, 0, 0), "r0-b0:5 hidden");
        x.bar(0, Shelfwalk.CLOSED);
        Check.same("CLOSED", State.text(x, 0, 0), "r0-b0:5 closed");
        Check.same("the other", State.text(x, 0, 1), "r0-b1:5 open");
        x.bar(0, Shelfwalk.OPEN);
        Check.same("OPEN", State.text(x, 0, 0), "r0-b0:5 open");
    }

    private static void none() {
        Shelfwalk x = new Shelfwalk();
        Check.same("in the empty net", State.text(x, 0, 0), "none");
        x.loan(0, 0, 1);
        Check.same("of another reader", State.text(x, 1, 0), "none");
        Check.same("of another book", State.text(x, 0, 1), "none");
        x.bar(1, Shelfwalk.CLOSED);
        Check.same("of a CLOSED book", State.text(x, 0, 1), "none");
        x.bar(1, Shelfwalk.HIDDEN);
        Check.same("of a HIDDEN book", State.text(x, 0, 1), "none");
        x.strike(0, 0);
        Check.same("struck out", State.text(x, 0, 0), "none");
        x.loan(0, 0, 1);
        x.fade();
        Check.same("faded", State.text(x, 0, 0), "none");
    }

    private static void readers() {
        Shelfwalk x = Nets.full();
        Check.same("the lowest", x.text(0, 2, 1), '0');
        Check.same("the highest", x.text(3, 2, 1), '3');
        Check.thrown("one below", Check.INDEX, () -> x.text(-1, 2, 0));
        Check.thrown("one beyond", Check.INDEX, () -> x.text(4, 2, 0));
    }

    private static void books() {
        Shelfwalk x = Nets.full();
        Check.same("the lowest", x.text(2, 0, 4), '0');
        Check.same("the highest", x.text(2, 4, 4), '4');
        Check.thrown("one below", Check.INDEX, () -> x.text(2, -1, 0));
        Check.thrown("one beyond", Check.INDEX, () -> x.text(2, 5, 0));
    }

    private static void places() {
        Shelfwalk x = Nets.full();
        Check.same("the first", x.text(3, 4, 0), 'r');
        Check.same("the second", x.text(3, 4, 1), '3');
        Check.same("the first once more", x.text(3, 4, 0), 'r');
        Check.thrown("one below", Check.INDEX, () -> x.text(3, 4, -1));
    }

    private static void signs() {
        Shelfwalk x = Nets.full();
        x.bar(4, Shelfwalk.CLOSED);
        String due = "r3-b4:99 closed";
        for (int place = 0; place < due.length(); place++) {
            Check.same("place " + place, x.text(3, 4, place), due.charAt(place));
        }
    }

    private static void behindTheLast() {
        Shelfwalk x = new Shelfwalk();
        Check.same("the last of none", x.text(0, 0, 3), 'e');
        Check.same("behind none", x.text(0, 0, 4), 0);
        x.loan(3, 4, 99);
        x.bar(4, Shelfwalk.HIDDEN);
        Check.same("the last of the longest", x.text(3, 4, 14), 'n');
        Check.same("behind the longest", x.text(3, 4, 15), 0);
        Check.same("the greatest place", x.text(3, 4, Integer.MAX_VALUE), 0);
        x.bar(4, Shelfwalk.OPEN);
        Check.same("behind a shorter one than ahead of it", x.text(3, 4, 13), 0);
        Check.same("behind none again", x.text(0, 0, 4), 0);
    }

    private static void noSuchReaderBookOrPlace() {
        for (int wrong : new int[] {-1, 4, Integer.MIN_VALUE, Integer.MAX_VALUE}) {
            Check.refused("reader " + wrong, Check.INDEX, Nets::rough, x -> x.text(wrong, 0, 0));
        }
        for (int wrong : new int[] {-1, 5, Integer.MIN_VALUE, Integer.MAX_VALUE}) {
            Check.refused("book " + wrong, Check.INDEX, Nets::rough, x -> x.text(0, wrong, 0));
        }
        for (int wrong : new int[] {-1, Integer.MIN_VALUE}) {
            Check.refused("place " + wrong, Check.INDEX, Nets::rough, x -> x.text(0, 0, wrong));
            Check.refused("place " + wrong + " of none", Check.INDEX, Nets::empty, x -> x.text(0, 0, wrong));
        }
        Check.thrown("all three", Check.INDEX, () -> new Shelfwalk().text(4, 5, -1));
    }
}
