/** Promise 11: listed. */
final class Promise11ListedTest {
    public static void main(String[] args) {
        byLanded();
        ownAndBarredAreOut();
        belowZeroComesLast();
        wrong();
        Check.end("Promise11ListedTest");
    }

    private static void byLanded() {
        Shelfwalk x = new Shelfwalk();
        x.loan(0, 0, 10);
        x.loan(1, 0, 10);
        x.loan(2, 0, 10);
        x.loan(1, 1, 5);
        x.loan(2, 1, 5);
        x.loan(2, 2, 20);
        int[] due = {2, 1, 3, 4, -1, -1};
        for (int place = 0; place < due.length; place++) {
            Check.same("place " + place, x.listed(0, place), due[place]);
        }
        Check.same("far place", x.listed(0, Integer.MAX_VALUE), -1);
        Check.same("a reader without loans", x.listed(3, 4), 4);
    }

    private static void ownAndBarredAreOut() {
        Shelfwalk x = new Shelfwalk();
        x.loan(3, 0, 1);
        x.bar(1, Shelfwalk.HIDDEN);
        x.bar(2, Shelfwalk.CLOSED);
        Check.same("first", x.listed(3, 0), 3);
        Check.same("second", x.listed(3, 1), 4);
        Check.same("no more", x.listed(3, 2), -1);
        Check.same("another's own is listed", x.listed(0, 0), 0);
        for (int book = 0; book < State.BOOKS; book++) {
            x.loan(1, book, 1);
        }
        Check.same("all are its own", x.listed(1, 0), -1);
    }

    private static void belowZeroComesLast() {
        Shelfwalk x = new Shelfwalk();
        x.loan(0, 0, 3);
        x.loan(1, 0, 2);
        x.loan(1, 1, 4);
        x.bar(0, Shelfwalk.CLOSED);
        x.strike(0, 0);
        x.bar(0, Shelfwalk.OPEN);
        for (int place = 1; place < State.BOOKS; place++) {
            int ahead = x.landed(0, 4 + x.listed(0, place - 1));
            int behind = x.landed(0, 4 + x.listed(0, place));
            Check.holds("greater first", ahead >= behind);
        }
        Check.holds("one below 0", x.landed(0, 4) < 0 || x.landed(0, 5) < 0);
        Check.holds("is last", x.landed(0, 4 + x.listed(0, 4)) < 0);
    }

    private static void wrong() {
        Shelfwalk x = new Shelfwalk();
        Check.noPlace("reader below", () -> x.listed(-1, 0));
        Check.noPlace("reader beyond", () -> x.listed(4, 0));
        Check.noPlace("place below", () -> x.listed(0, -1));
        Check.noPlace("least place", () -> x.listed(0, Integer.MIN_VALUE));
    }
}
