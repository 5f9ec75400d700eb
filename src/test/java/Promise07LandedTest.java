/** Promise 7: landed. */
final class Promise07LandedTest {
    public static void main(String[] args) {
        byHand();
        belowZero();
        wrong();
        Check.end("Promise07LandedTest");
    }

    /** A bound of 100000 and halves: 1000000, 500000, 250000 and 125000 are pushed to and fro. */
    private static void byHand() {
        Shelfwalk x = new Shelfwalk();
        x.walk(50, 100000);
        Check.same("its own", x.landed(3, 3), 500000 + 250000 + 125000 + 62500);
        Check.same("highest node", x.landed(3, 8), 0);
        Check.same("lowest node", x.landed(3, 0), 0);
        x.loan(0, 0, 1);
        x.walk(50, 100000);
        Check.same("reader", x.landed(0, 0), 500000 + 125000);
        Check.same("book", x.landed(0, 4), 250000 + 62500);
        Check.same("another's walk", x.landed(1, 4), 0);
        x.loan(0, 1, 1);
        x.loan(0, 2, 1);
        x.walk(50, 100000);
        Check.same("reader of three", x.landed(0, 0), 500000 + 83333);
        Check.same("first of three", x.landed(0, 4), 83334);
        Check.same("second of three", x.landed(0, 5), 83333);
        Check.same("last of three", x.landed(0, 6), 97222);
        x.strike(0, 1);
        x.strike(0, 2);
        x.walk(51, 100000);
        Check.same("toward 0", x.landed(0, 0), 490000 + 127449);
    }

    private static void belowZero() {
        Shelfwalk x = new Shelfwalk();
        x.loan(0, 0, 3);
        x.loan(1, 0, 2);
        x.loan(1, 1, 4);
        x.bar(1, Shelfwalk.HIDDEN);
        x.bar(0, Shelfwalk.CLOSED);
        Check.same("below 0", x.landed(0, 4), -12);
    }

    private static void wrong() {
        Shelfwalk x = new Shelfwalk();
        Check.noPlace("reader below", () -> x.landed(-1, 0));
        Check.noPlace("reader beyond", () -> x.landed(4, 0));
        Check.noPlace("node below", () -> x.landed(0, -1));
        Check.noPlace("node beyond", () -> x.landed(0, 9));
    }
}
