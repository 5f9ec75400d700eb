/** Promise 10: pushes. */
final class Promise10PushesTest {
    public static void main(String[] args) {
        Check.held(10, "Returns how many pushes there were", Promise10PushesTest::counted);
        Check.held(10, "of all walks", Promise10PushesTest::ofAllWalks);
        Check.held(10, "with those at first.", Promise10PushesTest::withThoseAtFirst);
        Check.held(10, "A method that throws an exception changes nothing.", Promise10PushesTest::refusedCalls);
        Check.end("Promise10PushesTest");
    }

    private static void counted() {
        Shelfwalk x = Nets.halvesOf(1);
        int before = x.pushes();
        Check.same("asking pushes nothing", x.pushes(), before);
        x.loan(0, 0, 1);
        Check.same("nothing to push", x.pushes(), before);
        x.strike(0, 0);
        // three at the reader, one at the book, and two at the reader, the last three of rests below 0
        Check.same("rests below 0 too", x.pushes(), before + 6);
        x.walk(50, 100000);
        Check.same("those ahead stay counted", x.pushes(), before + 6 + 16);
    }

    private static void ofAllWalks() {
        Shelfwalk x = new Shelfwalk();
        x.walk(50, 100000);
        Check.same("four of each walk", x.pushes(), 124 + 4 * 4);
        x.loan(3, 4, 1);
        Check.same("of the last walk alone", x.pushes(), 140 + 4);
        x.loan(0, 0, 1);
        Check.same("of the first walk alone", x.pushes(), 144 + 4);
    }

    private static void withThoseAtFirst() {
        Check.same("31 of each walk", new Shelfwalk().pushes(), 124);
    }

    private static void refusedCalls() {
        Shelfwalk x = Nets.rough();
        int before = x.pushes();
        Check.thrown("loan", Check.ARGUMENT, () -> x.loan(0, 0, 100));
        Check.thrown("strike", Check.STATE, () -> x.strike(0, 3));
        Check.thrown("bar", Check.ARGUMENT, () -> x.bar(0, 3));
        Check.thrown("walk", Check.ARGUMENT, () -> x.walk(50, 99));
        Check.same("pushes", x.pushes(), before);
    }
}
