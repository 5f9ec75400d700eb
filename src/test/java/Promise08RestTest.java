/** Promise 8: rest. */
final class Promise08RestTest {
    public static void main(String[] args) {
        byHand();
        belowZero();
        settled();
        wrong();
        Check.end("Promise08RestTest");
    }

    private static void byHand() {
        Shelfwalk x = new Shelfwalk();
        x.walk(50, 100000);
        Check.same("its own", x.rest(3, 3), 62500);
        Check.same("highest node", x.rest(3, 8), 0);
        x.loan(0, 0, 1);
        x.walk(50, 100000);
        Check.same("came back to the reader", x.rest(0, 0), 62500);
        Check.same("of the book", x.rest(0, 4), 0);
        x.loan(0, 1, 1);
        x.loan(0, 2, 1);
        x.walk(50, 100000);
        // Node 5 brings the reader's rest to 166667, and the reader is pushed ahead of node 6.
        Check.same("of the reader", x.rest(0, 0), 97222);
        Check.same("of the first book", x.rest(0, 4), 27778);
        Check.same("of the second", x.rest(0, 5), 27778);
        Check.same("of the last", x.rest(0, 6), 0);
    }

    private static void belowZero() {
        Shelfwalk x = new Shelfwalk();
        x.loan(0, 0, 3);
        x.loan(1, 0, 2);
        x.loan(1, 1, 4);
        x.bar(1, Shelfwalk.HIDDEN);
        x.bar(0, Shelfwalk.CLOSED);
        Check.same("below 0", x.rest(0, 0), -868);
    }

    private static void settled() {
        Shelfwalk x = new Shelfwalk();
        for (int k = 0; k < 200; k++) {
            x.loan(k % 4, k % 5, 1 + k % 50);
            x.bar(k % 3, k % 7 % 3);
            for (int reader = 0; reader < State.READERS; reader++) {
                for (int node = 0; node < State.NODES; node++) {
                    Check.holds("below the bound without a sign", Math.abs(x.rest(reader, node)) < 1000);
                }
            }
        }
    }

    private static void wrong() {
        Shelfwalk x = new Shelfwalk();
        Check.noPlace("reader below", () -> x.rest(-1, 0));
        Check.noPlace("reader beyond", () -> x.rest(4, 0));
        Check.noPlace("node below", () -> x.rest(0, -1));
        Check.noPlace("node beyond", () -> x.rest(0, 9));
    }
}
