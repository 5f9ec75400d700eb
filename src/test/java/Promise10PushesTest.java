/** Promise 10: pushes. */
final class Promise10PushesTest {
    public static void main(String[] args) {
        Shelfwalk x = new Shelfwalk();
        Check.same("those at first", x.pushes(), 124);
        Check.same("asking pushes nothing", x.pushes(), 124);
        x.walk(50, 100000);
        Check.same("those ahead stay counted", x.pushes(), 124 + 16);
        x.loan(0, 0, 1);
        // -875000 at the reader, 500000 at the book, 250000 at the reader, 125000 at the book
        Check.same("of a mended walk", x.pushes(), 140 + 4);
        x.strike(0, 0);
        Check.same("of rests below 0 too", x.pushes(), 144 + 6);
        int before = x.pushes();
        Check.badArgument("refused", () -> x.walk(50, 99));
        Check.same("refused calls push nothing", x.pushes(), before);
        Check.end("Promise10PushesTest");
    }
}
