/** Promise 12: way. */
final class Promise12WayTest {
    public static void main(String[] args) {
        carried();
        equalOnesByNumbers();
        carriesNothing();
        bars();
        ownBookToo();
        wrong();
        Check.end("Promise12WayTest");
    }

    private static void tells(Shelfwalk x, String what, int place, int... due) {
        for (int k = 0; k < 3; k++) {
            Check.same(what + ", " + k, x.way(0, 1, place, k), due[k]);
        }
    }

    private static void carried() {
        Shelfwalk x = new Shelfwalk();
        x.loan(0, 0, 3);
        x.loan(1, 0, 2);
        x.loan(1, 1, 4);
        tells(x, "1000000 by 3 of 3, 2 of 5, 4 of 6", 0, 0, 1, 266666);
        tells(x, "no more", 1, -1, -1, -1);
        tells(x, "far place", Integer.MAX_VALUE, -1, -1, -1);
        x.loan(0, 2, 4);
        x.loan(2, 2, 8);
        x.loan(2, 1, 8);
        // 571428 * 8 / 12 = 380952, * 8 / 16 = 190476; 428571 * 2 / 5 = 171428, * 4 / 6 = 114285
        tells(x, "greater first", 0, 2, 2, 190476);
        tells(x, "then the other", 1, 0, 1, 114285);
    }

    private static void equalOnesByNumbers() {
        Shelfwalk x = new Shelfwalk();
        for (int reader = 3; reader >= 0; reader--) {
            x.loan(reader, 4, 2);
            x.loan(reader, 2, 2);
        }
        for (int reader = 1; reader < State.READERS; reader++) {
            x.loan(reader, 1, 4);
        }
        int[][] due = {{2, 1}, {2, 2}, {2, 3}, {4, 1}, {4, 2}, {4, 3}};
        for (int place = 0; place < due.length; place++) {
            tells(x, "place " + place, place, due[place][0], due[place][1], 62500);
        }
        tells(x, "no more", 6, -1, -1, -1);
    }

    private static void carriesNothing() {
        Shelfwalk x = new Shelfwalk();
        for (int book = 0; book < State.BOOKS; book++) {
            for (int reader = 0; reader < State.READERS; reader++) {
                boolean onTheWay = reader == 0 && book == 0 || reader == 1 && book <= 1;
                x.loan(reader, book, onTheWay ? 1 : 99);
            }
        }
        boolean found = false;
        for (int place = 0; place < 12; place++) {
            if (x.way(0, 1, place, 0) == 0 && x.way(0, 1, place, 1) == 1) {
                Check.same("carries 0", x.way(0, 1, place, 2), 0);
                found = true;
            }
        }
        Check.holds("is one, too", found);
        tells(x, "all twelve", 12, -1, -1, -1);
    }

    private static void bars() {
        Shelfwalk x = new Shelfwalk();
        x.loan(0, 0, 3);
        x.loan(1, 0, 2);
        x.loan(1, 1, 4);
        x.loan(1, 2, 6);
        x.bar(0, Shelfwalk.HIDDEN);
        x.bar(1, Shelfwalk.HIDDEN);
        tells(x, "over HIDDEN ones", 0, 0, 1, 133333);
        x.bar(2, Shelfwalk.CLOSED);
        tells(x, "CLOSED ones have no weight", 0, 0, 1, 266666);
        x.bar(1, Shelfwalk.CLOSED);
        tells(x, "to a CLOSED one", 0, -1, -1, -1);
        x.bar(1, Shelfwalk.OPEN);
        x.bar(0, Shelfwalk.CLOSED);
        tells(x, "over a CLOSED one", 0, -1, -1, -1);
    }

    private static void ownBookToo() {
        Shelfwalk x = new Shelfwalk();
        x.loan(0, 0, 1);
        x.loan(1, 0, 1);
        x.loan(1, 1, 1);
        x.loan(0, 1, 1);
        tells(x, "to a book of its own, over another one and another reader", 0, 0, 1, 125000);
        tells(x, "no more", 1, -1, -1, -1);
    }

    private static void wrong() {
        Shelfwalk x = new Shelfwalk();
        Check.noPlace("reader below", () -> x.way(-1, 0, 0, 0));
        Check.noPlace("reader beyond", () -> x.way(4, 0, 0, 0));
        Check.noPlace("book below", () -> x.way(0, -1, 0, 0));
        Check.noPlace("book beyond", () -> x.way(0, 5, 0, 0));
        Check.noPlace("place below", () -> x.way(0, 0, -1, 0));
        Check.badArgument("what below", () -> x.way(0, 0, 0, -1));
        Check.badArgument("what beyond", () -> x.way(0, 0, 0, 3));
        Check.badArgument("what, though there is no way", () -> x.way(0, 0, 99, 3));
        Check.noPlace("reader ahead of what", () -> x.way(4, 0, 0, 3));
        Check.noPlace("book ahead of what", () -> x.way(0, 5, 0, -1));
        Check.noPlace("place ahead of what", () -> x.way(0, 0, -1, 3));
    }
}
