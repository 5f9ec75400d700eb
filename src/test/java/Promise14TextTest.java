/** Promise 14: text. */
final class Promise14TextTest {
    public static void main(String[] args) {
        Shelfwalk x = new Shelfwalk();
        Check.same("none", State.text(x, 0, 0), "none");
        x.loan(0, 0, 9);
        x.loan(3, 4, 10);
        Check.same("one sign of weight", State.text(x, 0, 0), "r0-b0:9 open");
        Check.same("two signs of weight", State.text(x, 3, 4), "r3-b4:10 open");
        x.bar(0, Shelfwalk.HIDDEN);
        x.bar(4, Shelfwalk.CLOSED);
        Check.same("hidden", State.text(x, 0, 0), "r0-b0:9 hidden");
        Check.same("closed", State.text(x, 3, 4), "r3-b4:10 closed");
        Check.same("a CLOSED book without a loan", State.text(x, 0, 4), "none");
        Check.same("first sign", x.text(3, 4, 0), 'r');
        Check.same("last sign", x.text(3, 4, 14), 'd');
        Check.same("behind the last sign", x.text(3, 4, 15), 0);
        Check.same("far behind", x.text(3, 4, Integer.MAX_VALUE), 0);
        Check.same("behind none", x.text(0, 1, 4), 0);
        Check.same("last of none", x.text(0, 1, 3), 'e');
        x.strike(0, 0);
        Check.same("struck", State.text(x, 0, 0), "none");
        Check.noPlace("reader below", () -> x.text(-1, 0, 0));
        Check.noPlace("reader beyond", () -> x.text(4, 0, 0));
        Check.noPlace("book below", () -> x.text(0, -1, 0));
        Check.noPlace("book beyond", () -> x.text(0, 5, 0));
        Check.noPlace("place below", () -> x.text(0, 0, -1));
        Check.noPlace("least place", () -> x.text(0, 0, Integer.MIN_VALUE));
        Check.end("Promise14TextTest");
    }
}
