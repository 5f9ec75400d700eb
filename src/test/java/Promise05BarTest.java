/** Promise 5: bar. */
final class Promise05BarTest {
    public static void main(String[] args) {
        Check.held(5, "Bars a book.", Promise05BarTest::thisBook);
        Check.held(5, "`book`: 0 to 4", Promise05BarTest::books);
        Check.held(5, "`how`: OPEN to CLOSED", Promise05BarTest::hows);
        Check.held(5, "Returns how it was.", Promise05BarTest::howItWas);
        Check.held(5, "Throws `IndexOutOfBoundsException` if there is no such book", Promise05BarTest::noSuchBook);
        Check.held(5, "Throws `IllegalArgumentException` if how is out of range", Promise05BarTest::howOutOfRange);
        Check.held(5, "If several exceptions apply, the one that is documented first is thrown.",
            Promise05BarTest::severalExceptions);
        Check.held(5, "`OPEN = 0, HIDDEN = 1, CLOSED = 2`: Bars.", Promise05BarTest::constants);
        Check.held(5, "HIDDEN: it is not listed", Promise05BarTest::hidden);
        Check.held(5, "CLOSED: nor are its loans walked", Promise05BarTest::closed);
        Check.held(5, "as if they were not there.", Promise05BarTest::asIfNotThere);
        Check.held(5, "or bars a book, whatever it changed, rests are mended", Promise05BarTest::mendsWithoutChange);
        Check.held(5, "A node without neighbours has the reader whose walk it is as its neighbour",
            Promise05BarTest::allClosed);
        Check.end("Promise05BarTest");
    }

    private static void thisBook() {
        Shelfwalk x = Nets.full();
        x.bar(2, Shelfwalk.CLOSED);
        for (int reader = 0; reader < State.READERS; reader++) {
            for (int book = 0; book < State.BOOKS; book++) {
                String how = book == 2 ? "closed" : "open";
                Check.same("text", State.text(x, reader, book), "r" + reader + "-b" + book + ":99 " + how);
            }
        }
    }

    private static void books() {
        Shelfwalk x = new Shelfwalk();
        Check.same("the lowest", x.bar(0, Shelfwalk.HIDDEN), Shelfwalk.OPEN);
        Check.same("the highest", x.bar(4, Shelfwalk.CLOSED), Shelfwalk.OPEN);
        Check.same("the lowest was", x.bar(0, Shelfwalk.OPEN), Shelfwalk.HIDDEN);
        Check.same("the highest was", x.bar(4, Shelfwalk.OPEN), Shelfwalk.CLOSED);
        Check.thrown("one below", Check.INDEX, () -> x.bar(-1, Shelfwalk.OPEN));
        Check.thrown("one beyond", Check.INDEX, () -> x.bar(5, Shelfwalk.OPEN));
    }

    private static void hows() {
        Shelfwalk x = new Shelfwalk();
        x.loan(0, 0, 1);
        String[] names = {"open", "hidden", "closed"};
        for (int how = 0; how < 3; how++) {
            x.bar(0, how);
            Check.same("text", State.text(x, 0, 0), "r0-b0:1 " + names[how]);
        }
        Check.thrown("one below", Check.ARGUMENT, () -> x.bar(0, -1));
        Check.thrown("one beyond", Check.ARGUMENT, () -> x.bar(0, 3));
        Check.same("still CLOSED", x.bar(0, Shelfwalk.OPEN), Shelfwalk.CLOSED);
    }

    private static void howItWas() {
        for (int before = 0; before < 3; before++) {
            for (int how = 0; how < 3; how++) {
                Shelfwalk x = new Shelfwalk();
                Check.same("at first", x.bar(1, before), Shelfwalk.OPEN);
                Check.same("then", x.bar(1, how), before);
                Check.same("at last", x.bar(1, how), how);
                Check.same("another one", x.bar(0, how), Shelfwalk.OPEN);
            }
        }
    }

    private static void noSuchBook() {
        for (int wrong : new int[] {-1, 5, Integer.MIN_VALUE, Integer.MAX_VALUE}) {
            Check.refused("book " + wrong, Check.INDEX, Nets::rough, x -> x.bar(wrong, Shelfwalk.CLOSED));
        }
        Check.refused("the full net", Check.INDEX, Nets::full, x -> x.bar(5, Shelfwalk.CLOSED));
    }

    private static void howOutOfRange() {
        for (int wrong : new int[] {-1, 3, Integer.MIN_VALUE, Integer.MAX_VALUE}) {
            Check.refused("how " + wrong, Check.ARGUMENT, Nets::rough, x -> x.bar(0, wrong));
            Check.refused("how " + wrong + " of a CLOSED one", Check.ARGUMENT, Nets::rough, x -> x.bar(4, wrong));
        }
        Check.refused("the empty net", Check.ARGUMENT, Nets::empty, x -> x.bar(0, 3));
    }

    private static void severalExceptions() {
        Check.refused("both beyond", Check.INDEX, Nets::rough, x -> x.bar(5, 3));
        Check.refused("both below", Check.INDEX, Nets::rough, x -> x.bar(-1, -1));
    }

    private static void constants() {
        Check.same("OPEN", Shelfwalk.OPEN, 0);
        Check.same("HIDDEN", Shelfwalk.HIDDEN, 1);
        Check.same("CLOSED", Shelfwalk.CLOSED, 2);
    }

    private static void hidden() {
        Shelfwalk x = Nets.halvesOf(1);
        x.bar(0, Shelfwalk.HIDDEN);
        Check.same("walked as before", State.walkOf(x, 0), State.walkOf(Nets.halvesOf(1), 0));
        Check.same("not listed", x.listed(1, 0), 1);
        Check.same("four are left", x.listed(1, 3), 4);
        Check.same("no more", x.listed(1, 4), Shelfwalk.NONE);
        x.bar(0, Shelfwalk.OPEN);
        Check.same("listed when OPEN again", x.listed(1, 0), 0);
    }

    private static void closed() {
        Shelfwalk x = Nets.halvesOf(1);
        x.bar(0, Shelfwalk.CLOSED);
        Check.same("not listed", x.listed(1, 0), 1);
        Check.same("nothing is sent to it", x.sent(0, 0, 4), 0);
        Check.same("nor by it but to the reader", x.sent(0, 4, 0), 0);
        Check.same("no share", x.share(0, 4), 0.0);
        Check.same("its loan stands", State.text(x, 0, 0), "r0-b0:1 closed");
        x.bar(0, Shelfwalk.HIDDEN);
        Check.holds("walked when HIDDEN", x.sent(0, 0, 4) > 0);
        x.bar(0, Shelfwalk.CLOSED);
        x.bar(0, Shelfwalk.OPEN);
        Check.holds("walked when OPEN", x.sent(0, 0, 4) > 0);
    }

    private static void asIfNotThere() {
        Check.same("walks of one CLOSED", State.walksOf(() -> begun(1, false)), State.walksOf(() -> begun(1, true)));
        Check.same("walks of all CLOSED", State.walksOf(() -> begun(5, false)), State.walksOf(Nets::halves));
        Shelfwalk without = begun(1, true);
        Shelfwalk closed = begun(1, false);
        for (int place = 0; place <= 9; place++) {
            for (int what = 0; what < 3; what++) {
                Check.same("ways", closed.way(0, 1, place, what), without.way(0, 1, place, what));
            }
        }
    }

    /** Loans of all, those of the lowest books CLOSED or struck out. */
    private static Shelfwalk begun(int count, boolean isStruck) {
        Shelfwalk x = Nets.full();
        for (int book = 0; book < count; book++) {
            x.bar(book, Shelfwalk.CLOSED);
            for (int reader = 0; isStruck && reader < State.READERS; reader++) {
                x.strike(reader, book);
            }
        }
        x.walk(50, 100000);
        return x;
    }

    private static void mendsWithoutChange() {
        Nets.checkMended("OPEN stays OPEN", x -> Check.same("was", x.bar(0, Shelfwalk.OPEN), Shelfwalk.OPEN));
        Nets.checkMended("HIDDEN stays HIDDEN", x -> Check.same("was", x.bar(3, Shelfwalk.HIDDEN), Shelfwalk.HIDDEN));
        Nets.checkMended("CLOSED stays CLOSED", x -> Check.same("was", x.bar(4, Shelfwalk.CLOSED), Shelfwalk.CLOSED));
        Nets.checkMended("OPEN to HIDDEN", x -> Check.same("was", x.bar(1, Shelfwalk.HIDDEN), Shelfwalk.OPEN));
    }

    private static void allClosed() {
        Shelfwalk x = Nets.halvesOf(1);
        x.bar(0, Shelfwalk.CLOSED);
        Shelfwalk struck = Nets.halvesOf(1);
        struck.strike(0, 0);
        Check.same("as if struck out", State.walkOf(x, 0), State.walkOf(struck, 0));
        Check.same("sent to itself", x.sent(0, 0, 0), 1056641);
    }
}
