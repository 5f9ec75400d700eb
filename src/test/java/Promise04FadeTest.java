/** Promise 4: fade. */
final class Promise04FadeTest {
    public static void main(String[] args) {
        Check.held(4, "Lets all loans fade to the half, rounded down", Promise04FadeTest::halves);
        Check.held(4, "Lets all loans fade", Promise04FadeTest::allOfThem);
        Check.held(4, "those without a weight go.", Promise04FadeTest::go);
        Check.held(4, "Returns how many loans are left.", Promise04FadeTest::left);
        Check.held(4, "lets loans fade", Promise04FadeTest::mends);
        Check.held(4, "whatever it changed, rests are mended, in each walk", Promise04FadeTest::mendsSameParts);
        Check.held(4, "A node without neighbours has the reader whose walk it is as its neighbour",
            Promise04FadeTest::allGone);
        Check.end("Promise04FadeTest");
    }

    private static void halves() {
        int[][] due = {{1, 0}, {2, 1}, {3, 1}, {4, 2}, {50, 25}, {97, 48}, {98, 49}, {99, 49}};
        for (int[] pair : due) {
            Shelfwalk x = new Shelfwalk();
            x.loan(1, 1, pair[0]);
            x.fade();
            Check.same("of " + pair[0], State.text(x, 1, 1), pair[1] == 0 ? "none" : "r1-b1:" + pair[1] + " open");
        }
    }

    private static void allOfThem() {
        Shelfwalk x = Nets.full();
        x.bar(1, Shelfwalk.HIDDEN);
        x.bar(2, Shelfwalk.CLOSED);
        String[] how = {"open", "hidden", "closed", "open", "open"};
        x.fade();
        for (int reader = 0; reader < State.READERS; reader++) {
            for (int book = 0; book < State.BOOKS; book++) {
                Check.same("text", State.text(x, reader, book), "r" + reader + "-b" + book + ":49 " + how[book]);
            }
        }
    }

    private static void go() {
        Shelfwalk x = new Shelfwalk();
        x.loan(0, 0, 1);
        x.loan(0, 1, 2);
        x.loan(0, 2, 1);
        x.bar(2, Shelfwalk.CLOSED);
        x.fade();
        Check.same("text", State.text(x, 0, 0), "none");
        Check.same("text of a CLOSED one", State.text(x, 0, 2), "none");
        Check.thrown("strike", Check.STATE, () -> x.strike(0, 0));
        Check.same("listed again", x.listed(0, 0) + x.listed(0, 1) + x.listed(0, 2), 0 + 3 + 4);
        Check.same("its share", x.share(0, 4), 0.0);
        Check.same("comes anew", x.loan(0, 0, 1), 1);
        Check.same("the one with a weight stays", x.strike(0, 1), 1);
    }

    private static void left() {
        Check.same("of the empty net", Nets.empty().fade(), 0);
        Check.same("of the full net", Nets.full().fade(), 20);
        Check.same("of all with 1", Nets.fullOf(1).fade(), 0);
        Shelfwalk x = Nets.fullOf(2);
        x.strike(3, 4);
        x.loan(0, 0, 2);
        x.bar(0, Shelfwalk.CLOSED);
        Check.same("CLOSED ones too", x.fade(), 19);
        Check.same("but one with 2", x.fade(), 1);
        Check.same("and none", x.fade(), 0);
        Check.same("none once more", x.fade(), 0);
    }

    private static void mends() {
        Shelfwalk x = Nets.halvesOf(1, 2);
        Check.same("sent to the first", x.sent(0, 0, 4), 166667 + 41667);
        Check.same("sent to the second", x.sent(0, 0, 5), 333333 + 83334);
        x.fade();
        // The first one goes: all 625001 that the reader sent are the second one's.
        Check.same("nothing to the first", x.sent(0, 0, 4), 0);
        Check.same("-166667 at the first are pushed to the reader", x.sent(0, 4, 0), 83334 - 83334);
        Check.same("landed at the first", x.landed(0, 4), 83333 - 83333);
        Check.same("291668 at the second are pushed", x.landed(0, 5), 166666 + 145834);
        Check.same("rest of the reader", x.rest(0, 0), 145834 - 83334);
    }

    /** Weights 2 and 10 become 1 and 5: the same parts, and still what was sent in two pushes is sent in one. */
    private static void mendsSameParts() {
        Shelfwalk x = Nets.halvesOf(2, 10);
        Check.same("rest of the first", x.rest(0, 4), 0);
        Check.same("rest of the second", x.rest(0, 5), 86805);
        Check.same("both are left", x.fade(), 2);
        Check.same("rest of the first, mended", x.rest(0, 4), -1);
        Check.same("rest of the second, mended", x.rest(0, 5), 86806);
    }

    private static void allGone() {
        Shelfwalk x = Nets.halvesOf(1);
        x.fade();
        Shelfwalk struck = Nets.halvesOf(1);
        struck.strike(0, 0);
        Check.same("as if struck out", State.walkOf(x, 0), State.walkOf(struck, 0));
        Check.same("sent to itself", x.sent(0, 0, 0), 1056641);
    }
}
