/** Promise 9: sent. */
final class Promise09SentTest {
    public static void main(String[] args) {
        byHand();
        anew();
        belowZero();
        wrong();
        Check.end("Promise09SentTest");
    }

    private static void byHand() {
        Shelfwalk x = new Shelfwalk();
        x.walk(50, 100000);
        Check.same("to itself", x.sent(3, 3, 3), 937500);
        Check.same("to the highest node", x.sent(3, 3, 8), 0);
        Check.same("by the highest node", x.sent(3, 8, 3), 0);
        x.loan(0, 0, 1);
        x.loan(0, 1, 1);
        x.loan(0, 2, 1);
        x.walk(50, 100000);
        // 500000 and later 83334 are sent; of the first, 2 are over.
        Check.same("with what is over", x.sent(0, 0, 4), 166668 + 27778);
        Check.same("without", x.sent(0, 0, 5), 166666 + 27778);
        Check.same("to the last one", x.sent(0, 0, 6), 166666 + 27778);
        Check.same("back from the first", x.sent(0, 4, 0), 83334);
        Check.same("back from the second", x.sent(0, 5, 0), 83333);
        Check.same("the reader was pushed ahead of the last", x.sent(0, 6, 0), 97222);
    }

    /** What a node sent ahead is told anew, by the weights that there are now. */
    private static void anew() {
        Shelfwalk x = new Shelfwalk();
        x.walk(50, 100000);
        x.loan(0, 0, 1);
        x.walk(50, 100000);
        Check.same("all to the one book", x.sent(0, 0, 4), 625000);
        // Of 625000, 6313 by 1 of 99: settled already, so nothing is pushed behind it.
        x.loan(0, 0, 97);
        x.loan(0, 1, 1);
        Check.same("a 99th to the other", x.sent(0, 0, 5), 6313);
        Check.same("the lowest gets what is over", x.sent(0, 0, 4), 618687);
        Check.same("rest of the other", x.rest(0, 5), 6313);
        Check.same("rest below 0", x.rest(0, 4), -6313);
        Check.same("the other sent nothing", x.sent(0, 5, 0), 0);
    }

    /** Parts of units below 0 are rounded toward 0 as well. */
    private static void belowZero() {
        Shelfwalk x = new Shelfwalk();
        x.walk(50, 100000);
        x.loan(0, 0, 1);
        x.loan(0, 1, 2);
        Reference due = new Reference();
        due.walk(50, 100000);
        due.loan(0, 0, 1);
        due.loan(0, 1, 2);
        for (int node = 0; node < State.NODES; node++) {
            for (int other = 0; other < State.NODES; other++) {
                Check.same("sent by " + node, x.sent(0, node, other), due.sent[0][node][other].longValueExact());
            }
        }
    }

    private static void wrong() {
        Shelfwalk x = new Shelfwalk();
        Check.noPlace("reader below", () -> x.sent(-1, 0, 0));
        Check.noPlace("reader beyond", () -> x.sent(4, 0, 0));
        Check.noPlace("node below", () -> x.sent(0, -1, 0));
        Check.noPlace("node beyond", () -> x.sent(0, 9, 0));
        Check.noPlace("other below", () -> x.sent(0, 0, -1));
        Check.noPlace("other beyond", () -> x.sent(0, 0, 9));
    }
}
