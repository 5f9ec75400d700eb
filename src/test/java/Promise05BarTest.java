/** Promise 5: bar. */
final class Promise05BarTest {
    private static final String INDEX = "IndexOutOfBoundsException";
    private static final String ARGUMENT = "IllegalArgumentException";

    public static void main(String[] args) {
        tellsHowItWas();
        hiddenIsWalked();
        closedIsNotWalked();
        mendsWithoutChange();
        wrong();
        Check.end("Promise05BarTest");
    }

    private static void tellsHowItWas() {
        Shelfwalk x = new Shelfwalk();
        for (int book = 0; book < State.BOOKS; book++) {
            Check.same("OPEN at first", x.bar(book, Shelfwalk.CLOSED), Shelfwalk.OPEN);
            Check.same("CLOSED", x.bar(book, Shelfwalk.CLOSED), Shelfwalk.CLOSED);
            Check.same("still CLOSED", x.bar(book, Shelfwalk.HIDDEN), Shelfwalk.CLOSED);
            Check.same("HIDDEN", x.bar(book, Shelfwalk.OPEN), Shelfwalk.HIDDEN);
        }
        Check.same("OPEN again", x.bar(0, Shelfwalk.OPEN), Shelfwalk.OPEN);
    }

    private static void hiddenIsWalked() {
        Shelfwalk x = new Shelfwalk();
        x.loan(0, 0, 3);
        double share = x.share(0, 4);
        x.bar(0, Shelfwalk.HIDDEN);
        Check.same("share as before", x.share(0, 4), share);
        Check.holds("still sent to", x.sent(0, 0, 4) > 0);
        x.bar(1, Shelfwalk.HIDDEN);
        Check.same("not listed", x.listed(0, 0), 2);
    }

    private static void closedIsNotWalked() {
        Shelfwalk x = new Shelfwalk();
        x.loan(0, 0, 3);
        x.bar(0, Shelfwalk.CLOSED);
        Check.same("nothing sent to it", x.sent(0, 0, 4), 0);
        Check.same("what it sent goes to the reader", x.sent(0, 4, 1), 0);
        Check.same("share", x.share(0, 4), 0.0);
        Check.same("all for the reader", x.share(0, 0), 1.0);
        Check.same("the loan stands", State.text(x, 0, 0), "r0-b0:3 closed");
        x.bar(0, Shelfwalk.OPEN);
        Check.holds("sent to again", x.sent(0, 0, 4) > 2000000);
    }

    /** Sends anew what pushes had sent bit by bit, so that what is over goes another way. */
    private static void mendsWithoutChange() {
        Shelfwalk x = new Shelfwalk();
        x.loan(0, 0, 99);
        x.loan(0, 1, 98);
        x.loan(0, 2, 97);
        x.walk(50, 100);
        String begun = State.of(x);
        Check.same("stays OPEN", x.bar(4, Shelfwalk.OPEN), Shelfwalk.OPEN);
        Check.holds("mended all the same", !State.of(x).equals(begun));
    }

    private static void wrong() {
        Shelfwalk x = new Shelfwalk();
        x.loan(0, 0, 3);
        x.bar(1, Shelfwalk.HIDDEN);
        Check.refused(x, "book below", INDEX, () -> x.bar(-1, 0));
        Check.refused(x, "book beyond", INDEX, () -> x.bar(5, 0));
        Check.refused(x, "how below", ARGUMENT, () -> x.bar(0, -1));
        Check.refused(x, "how beyond", ARGUMENT, () -> x.bar(0, 3));
        Check.refused(x, "book ahead of how", INDEX, () -> x.bar(5, 3));
        Check.refused(x, "far off", INDEX, () -> x.bar(Integer.MIN_VALUE, Integer.MAX_VALUE));
    }
}
