/** Promise 1: a new object. */
final class Promise01NewTest {
    public static void main(String[] args) {
        Check.held(1, "No loans", Promise01NewTest::noLoans);
        Check.held(1, "all books OPEN", Promise01NewTest::allOpen);
        Check.held(1, "A book may be barred: OPEN at first", Promise01NewTest::openAtFirst);
        Check.held(1, "all walks are settled.", Promise01NewTest::allSettled);
        Check.held(1, "At first all units are the rest of the reader's node.", Promise01NewTest::unitsAtTheReader);
        Check.held(1, "Each reader has a walk, of 1000000 units", Promise01NewTest::allUnits);
        Check.held(1, "80 at first, for all walks.", Promise01NewTest::firstDamping);
        Check.held(1, "1000 at first", Promise01NewTest::firstBound);
        Check.held(1, "also if it is that reader itself.", Promise01NewTest::sendsToItself);
        Check.held(1, "`Shelfwalk()`", Promise01NewTest::objectsAreApart);
        Check.end("Promise01NewTest");
    }

    private static void noLoans() {
        Shelfwalk x = new Shelfwalk();
        for (int reader = 0; reader < State.READERS; reader++) {
            for (int book = 0; book < State.BOOKS; book++) {
                int[] loan = {reader, book};
                Check.same("text", State.text(x, reader, book), "none");
                Check.same("way", x.way(reader, book, 0, 0), Shelfwalk.NONE);
                Check.thrown("strike", Check.STATE, () -> x.strike(loan[0], loan[1]));
            }
        }
        Check.same("left by fade", x.fade(), 0);
    }

    private static void allOpen() {
        Shelfwalk x = new Shelfwalk();
        for (int reader = 0; reader < State.READERS; reader++) {
            for (int book = 0; book < State.BOOKS; book++) {
                Check.same("listed", x.listed(reader, book), book);
            }
        }
    }

    private static void openAtFirst() {
        for (int how = Shelfwalk.OPEN; how <= Shelfwalk.CLOSED; how++) {
            Shelfwalk x = new Shelfwalk();
            for (int book = 0; book < State.BOOKS; book++) {
                Check.same("book " + book, x.bar(book, how), Shelfwalk.OPEN);
            }
        }
    }

    /** 1000000 by 80 of 100, 31 times, toward the reader; the last push takes 1240, at least 1000. */
    private static void allSettled() {
        Shelfwalk x = new Shelfwalk();
        Check.same("31 pushes of each walk", x.pushes(), 124);
        for (int reader = 0; reader < State.READERS; reader++) {
            Check.same("rest", x.rest(reader, reader), 992);
            Check.same("landed", x.landed(reader, reader), 999008);
            Check.same("sent", x.sent(reader, reader, reader), 3996078);
        }
    }

    private static void unitsAtTheReader() {
        Shelfwalk x = new Shelfwalk();
        for (int reader = 0; reader < State.READERS; reader++) {
            for (int node = 0; node < State.NODES; node++) {
                if (node != reader) {
                    Check.same("landed elsewhere", x.landed(reader, node), 0);
                    Check.same("rest elsewhere", x.rest(reader, node), 0);
                }
            }
        }
    }

    private static void allUnits() {
        for (int reader = 0; reader < State.READERS; reader++) {
            Check.same("at first", unitsOf(Nets.empty(), reader), 1000000);
            Check.same("of the full net", unitsOf(Nets.full(), reader), 1000000);
            Check.same("begun anew", unitsOf(Nets.halves(), reader), 1000000);
        }
    }

    private static int unitsOf(Shelfwalk x, int reader) {
        int units = 0;
        for (int node = 0; node < State.NODES; node++) {
            units += x.landed(reader, node) + x.rest(reader, node);
        }
        return units;
    }

    private static void firstDamping() {
        for (int reader = 0; reader < State.READERS; reader++) {
            Shelfwalk x = new Shelfwalk();
            x.loan(reader, 0, 1);
            // A reader and one book: 1 by 1.8, and 0.8 of it.
            Check.near("share of reader " + reader, x.share(reader, reader), 1.0 / 1.8);
            Check.near("share of its book", x.share(reader, 4), 0.8 / 1.8);
        }
    }

    /** Rests of 1000 and 999, with both signs, each the only one at the bound in what its calls tell. */
    private static void firstBound() {
        checkFirstBound("1000 is pushed", 0, 810, 208, new int[] {0, 0, 1}, new int[] {0, 1, 15});
        checkFirstBound("-1000 is pushed", 0, 806, 218, new int[] {0, 0, 13}, new int[] {0, 1, 83});
        checkFirstBound("999 is not", 4, 999, 201, new int[] {0, 0, 1}, new int[] {0, 1, 57});
        checkFirstBound("-999 is not", 5, -999, 328, new int[] {0, 0, 1}, new int[] {0, 1, 10}, new int[] {1, 0, 1});
    }

    private static void checkFirstBound(String what, int node, int rest, int pushes, int[]... loans) {
        Shelfwalk x = new Shelfwalk();
        for (int[] loan : loans) {
            x.loan(loan[0], loan[1], loan[2]);
        }
        Check.same(what + ", rest", x.rest(0, node), rest);
        Check.same(what + ", pushes", x.pushes(), pushes);
    }

    private static void sendsToItself() {
        Shelfwalk x = Nets.halves();
        for (int reader = 0; reader < State.READERS; reader++) {
            // 500000, 250000, 125000 and 62500, all to itself
            for (int node = 0; node < State.NODES; node++) {
                Check.same("sent to " + node, x.sent(reader, reader, node), node == reader ? 937500 : 0);
            }
        }
    }

    private static void objectsAreApart() {
        Shelfwalk used = new Shelfwalk();
        Shelfwalk other = new Shelfwalk();
        used.walk(50, 100);
        used.loan(0, 0, 1);
        used.bar(1, Shelfwalk.CLOSED);
        Check.same("text", State.text(other, 0, 0), "none");
        Check.same("pushes", other.pushes(), 124);
        Check.same("how it was", other.bar(1, Shelfwalk.OPEN), Shelfwalk.OPEN);
        Check.same("a new one", State.of(Shelfwalk::new), State.ofAsked(Reference::new));
    }
}
