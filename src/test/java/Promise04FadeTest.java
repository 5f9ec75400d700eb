/** Promise 4: fade. */
final class Promise04FadeTest {
    public static void main(String[] args) {
        halves();
        closedOnesFadeToo();
        mendsWithoutLoans();
        Check.end("Promise04FadeTest");
    }

    private static void halves() {
        Shelfwalk x = new Shelfwalk();
        Check.same("none at first", x.fade(), 0);
        x.loan(0, 0, 99);
        x.loan(1, 1, 2);
        x.loan(2, 2, 1);
        x.loan(3, 4, 3);
        Check.same("one goes", x.fade(), 3);
        Check.same("rounded down", State.text(x, 0, 0), "r0-b0:49 open");
        Check.same("half", State.text(x, 1, 1), "r1-b1:1 open");
        Check.same("gone", State.text(x, 2, 2), "none");
        Check.same("3 to 1", State.text(x, 3, 4), "r3-b4:1 open");
        Check.badState("no loan is left", () -> x.strike(2, 2));
        Check.same("two more go", x.fade(), 1);
        int[] weights = {24, 12, 6, 3, 1};
        for (int k = 1; k < weights.length; k++) {
            Check.same("the last one", x.fade(), 1);
            Check.same("its weight", State.text(x, 0, 0), "r0-b0:" + weights[k] + " open");
        }
        Check.same("goes", x.fade(), 0);
        Check.same("and none is left", x.fade(), 0);
        Check.same("no share of the book", x.share(0, 4), 0.0);
    }

    private static void closedOnesFadeToo() {
        Shelfwalk x = new Shelfwalk();
        x.loan(0, 0, 5);
        x.loan(0, 1, 1);
        x.loan(0, 2, 4);
        x.bar(0, Shelfwalk.CLOSED);
        x.bar(1, Shelfwalk.CLOSED);
        x.bar(2, Shelfwalk.HIDDEN);
        Check.same("left, CLOSED ones too", x.fade(), 2);
        Check.same("CLOSED", State.text(x, 0, 0), "r0-b0:2 closed");
        Check.same("CLOSED and gone", State.text(x, 0, 1), "none");
        Check.same("HIDDEN", State.text(x, 0, 2), "r0-b2:2 hidden");
    }

    private static void mendsWithoutLoans() {
        Shelfwalk x = new Shelfwalk();
        Reference due = new Reference();
        x.loan(0, 0, 3);
        due.loan(0, 0, 3);
        for (int k = 0; k < 5; k++) {
            Check.same("left", x.fade(), due.fade());
            Check.same("landed", x.landed(0, 0), due.landed[0][0].longValueExact());
            Check.same("rest", x.rest(0, 0), due.rest[0][0].longValueExact());
            Check.same("pushes", x.pushes(), due.pushes);
        }
    }
}
