/** Promise 2: loan. */
final class Promise02LoanTest {
    private static final String INDEX = "IndexOutOfBoundsException";
    private static final String ARGUMENT = "IllegalArgumentException";

    public static void main(String[] args) {
        growsToMost();
        edges();
        mends();
        mendsWithoutChange();
        wrong();
        Check.end("Promise02LoanTest");
    }

    private static void growsToMost() {
        Shelfwalk x = new Shelfwalk();
        Check.same("comes", x.loan(1, 2, 3), 3);
        Check.same("heavier", x.loan(1, 2, 4), 7);
        Check.same("another one", x.loan(2, 1, 5), 5);
        Check.same("98", x.loan(1, 2, 91), 98);
        Check.same("99", x.loan(1, 2, 1), 99);
        Check.same("not over 99", x.loan(1, 2, 1), 99);
        Check.same("nor by much", x.loan(2, 1, 99), 99);
        Check.same("text", State.text(x, 1, 2), "r1-b2:99 open");
    }

    private static void edges() {
        Shelfwalk x = new Shelfwalk();
        Check.same("lightest, lowest", x.loan(0, 0, 1), 1);
        Check.same("heaviest, highest", x.loan(3, 4, 99), 99);
        Check.same("text of the lowest", State.text(x, 0, 0), "r0-b0:1 open");
        Check.same("text of the highest", State.text(x, 3, 4), "r3-b4:99 open");
        x.bar(2, Shelfwalk.CLOSED);
        Check.same("of a CLOSED book", x.loan(0, 2, 8), 8);
        Check.same("and heavier", x.loan(0, 2, 8), 16);
    }

    private static void mends() {
        Shelfwalk x = new Shelfwalk();
        x.loan(0, 0, 3);
        Check.same("landed at the reader", x.landed(0, 0), 555110);
        Check.same("landed at the book", x.landed(0, 4), 443898);
        Check.same("rest of the reader", x.rest(0, 0), 0);
        Check.same("rest of the book", x.rest(0, 4), 992);
        Check.same("all sent anew", x.sent(0, 0, 0), 0);
        Check.same("sent to the book", x.sent(0, 0, 4), 2220511);
        Check.same("sent back", x.sent(0, 4, 0), 1775621);
        Check.same("another's walk", x.landed(1, 1), 999008);
    }

    /** A weight that stays at 99 mends too: what is over goes another way than in pushes. */
    private static void mendsWithoutChange() {
        Shelfwalk x = new Shelfwalk();
        x.walk(50, 100);
        x.loan(0, 0, 99);
        x.loan(0, 1, 98);
        x.loan(0, 2, 97);
        x.walk(50, 100);
        String begun = State.of(x);
        Check.same("stays", x.loan(0, 0, 99), 99);
        Check.holds("mended all the same", !State.of(x).equals(begun));
    }

    private static void wrong() {
        Shelfwalk x = new Shelfwalk();
        x.loan(0, 0, 5);
        Check.refused(x, "reader below", INDEX, () -> x.loan(-1, 0, 1));
        Check.refused(x, "reader beyond", INDEX, () -> x.loan(4, 0, 1));
        Check.refused(x, "book below", INDEX, () -> x.loan(0, -1, 1));
        Check.refused(x, "book beyond", INDEX, () -> x.loan(0, 5, 1));
        Check.refused(x, "weight below", ARGUMENT, () -> x.loan(0, 0, 0));
        Check.refused(x, "weight below 0", ARGUMENT, () -> x.loan(0, 0, -1));
        Check.refused(x, "weight beyond", ARGUMENT, () -> x.loan(0, 0, 100));
        Check.refused(x, "greatest weight", ARGUMENT, () -> x.loan(0, 0, Integer.MAX_VALUE));
        Check.refused(x, "reader ahead of weight", INDEX, () -> x.loan(4, 0, 0));
        Check.refused(x, "book ahead of weight", INDEX, () -> x.loan(0, 5, 100));
        Check.refused(x, "least of all", INDEX,
            () -> x.loan(Integer.MIN_VALUE, Integer.MAX_VALUE, Integer.MIN_VALUE));
    }
}
