/** Promise 3: strike. */
final class Promise03StrikeTest {
    private static final String INDEX = "IndexOutOfBoundsException";
    private static final String STATE = "IllegalStateException";

    public static void main(String[] args) {
        strikes();
        mends();
        strikesOfClosed();
        wrong();
        Check.end("Promise03StrikeTest");
    }

    private static void strikes() {
        Shelfwalk x = new Shelfwalk();
        x.loan(0, 0, 99);
        x.loan(3, 4, 1);
        x.loan(0, 4, 7);
        Check.same("heaviest, lowest", x.strike(0, 0), 99);
        Check.same("lightest, highest", x.strike(3, 4), 1);
        Check.same("gone", State.text(x, 0, 0), "none");
        Check.same("the other stays", State.text(x, 0, 4), "r0-b4:7 open");
        Check.badState("twice", () -> x.strike(0, 0));
        Check.same("comes anew", x.loan(0, 0, 2), 2);
        Check.same("with the new weight", x.strike(0, 0), 2);
    }

    private static void mends() {
        Shelfwalk x = new Shelfwalk();
        x.walk(50, 100000);
        x.loan(0, 0, 1);
        Check.same("sent to the book", x.sent(0, 0, 4), 625000);
        Check.same("sent back", x.sent(0, 4, 0), 312500);
        x.strike(0, 0);
        // 687500, 343750 and 171875 at the reader, -625000 at the book, -226562 and -113281 at the reader
        Check.same("landed at the reader", x.landed(0, 0), 1056641);
        Check.same("landed at the book", x.landed(0, 4), 0);
        Check.same("rest, halved toward 0", x.rest(0, 0), -56641);
        Check.same("rest of the book", x.rest(0, 4), 0);
        Check.same("sent to itself again", x.sent(0, 0, 0), 1056641);
        Check.same("nothing to the book", x.sent(0, 0, 4), 0);
        Check.same("nothing by it", x.sent(0, 4, 0), 0);
    }

    private static void strikesOfClosed() {
        Shelfwalk x = new Shelfwalk();
        x.loan(2, 3, 12);
        x.bar(3, Shelfwalk.CLOSED);
        Check.same("loan of a CLOSED book", x.strike(2, 3), 12);
        x.bar(3, Shelfwalk.OPEN);
        Check.same("does not come back", State.text(x, 2, 3), "none");
    }

    private static void wrong() {
        Shelfwalk x = new Shelfwalk();
        x.loan(1, 1, 5);
        Check.refused(x, "reader below", INDEX, () -> x.strike(-1, 0));
        Check.refused(x, "reader beyond", INDEX, () -> x.strike(4, 0));
        Check.refused(x, "book below", INDEX, () -> x.strike(0, -1));
        Check.refused(x, "book beyond", INDEX, () -> x.strike(0, 5));
        Check.refused(x, "no loan", STATE, () -> x.strike(1, 0));
        Check.refused(x, "another's loan", STATE, () -> x.strike(0, 1));
    }
}
