/** Promise 1: a new object. */
final class Promise01NewTest {
    public static void main(String[] args) {
        Shelfwalk x = new Shelfwalk();
        Check.same("31 pushes of each walk", x.pushes(), 124);
        for (int reader = 0; reader < State.READERS; reader++) {
            for (int node = 0; node < State.NODES; node++) {
                boolean own = node == reader;
                Check.same("landed", x.landed(reader, node), own ? 999008 : 0);
                Check.same("rest", x.rest(reader, node), own ? 992 : 0);
                Check.same("share", x.share(reader, node), own ? 1.0 : 0.0);
                for (int other = 0; other < State.NODES; other++) {
                    Check.same("sent", x.sent(reader, node, other), own && other == reader ? 3996078 : 0);
                }
            }
        }
        allOpenWithoutLoans(x);
        objectsAreApart();
        Check.end("Promise01NewTest");
    }

    private static void allOpenWithoutLoans(Shelfwalk x) {
        for (int reader = 0; reader < State.READERS; reader++) {
            for (int book = 0; book < State.BOOKS; book++) {
                Check.same("listed, so OPEN", x.listed(reader, book), book);
                Check.same("text", State.text(x, reader, book), "none");
                Check.same("way", x.way(reader, book, 0, 0), -1);
            }
        }
        for (int book = 0; book < State.BOOKS; book++) {
            Check.same("how it was", x.bar(book, Shelfwalk.OPEN), Shelfwalk.OPEN);
        }
    }

    private static void objectsAreApart() {
        Shelfwalk one = new Shelfwalk();
        Shelfwalk other = new Shelfwalk();
        String before = State.of(other);
        one.walk(50, 100);
        one.loan(0, 0, 1);
        one.bar(1, Shelfwalk.CLOSED);
        Check.same("another object", State.of(other), before);
    }
}
