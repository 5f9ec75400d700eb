/** Promise 13: share. */
final class Promise13ShareTest {
    public static void main(String[] args) {
        toTheLastBit();
        stepByStep();
        sumsToOne();
        nearToLanded();
        wrong();
        Check.end("Promise13ShareTest");
    }

    private static void toTheLastBit() {
        Shelfwalk x = new Shelfwalk();
        Check.same("its own", x.share(3, 3), 1.0);
        Check.same("highest node", x.share(3, 8), 0.0);
        x.loan(0, 0, 3);
        Check.same("a loan", x.share(0, 4), 0.44444444444444453);
        x.loan(1, 0, 2);
        x.loan(1, 1, 4);
        Check.same("three loans", x.share(0, 5), 0.10195141377937078);
        x.bar(0, Shelfwalk.CLOSED);
        Check.same("CLOSED", x.share(0, 4), 0.0);
        Check.same("the reader alone", x.share(0, 0), 1.0);
    }

    /** The order of the steps shows in the last bits of shares of full nets. */
    private static void stepByStep() {
        Shelfwalk x = new Shelfwalk();
        Reference due = new Reference();
        for (int k = 0; k < 20; k++) {
            x.loan(k % 4, k % 5, 1 + k * 37 % 99);
            due.loan(k % 4, k % 5, 1 + k * 37 % 99);
            for (int reader = 0; reader < State.READERS; reader++) {
                double[] shares = due.shares(reader);
                for (int node = 0; node < State.NODES; node++) {
                    Check.same("share", x.share(reader, node), shares[node]);
                }
            }
        }
    }

    private static void sumsToOne() {
        Shelfwalk x = new Shelfwalk();
        for (int damping = 50; damping <= 90; damping += 10) {
            x.walk(damping, 1000);
            for (int k = 0; k < 12; k++) {
                x.loan(k % 4, k * 3 % 5, 1 + k * 7);
                for (int reader = 0; reader < State.READERS; reader++) {
                    double sum = 0.0;
                    for (int node = 0; node < State.NODES; node++) {
                        sum += x.share(reader, node);
                    }
                    Check.same("all shares", sum, 1.0, 1e-9);
                }
            }
        }
    }

    private static void nearToLanded() {
        Shelfwalk x = new Shelfwalk();
        x.walk(60, 100);
        x.loan(0, 0, 5);
        x.loan(2, 0, 9);
        x.loan(2, 3, 4);
        for (int reader = 0; reader < State.READERS; reader++) {
            for (int node = 0; node < State.NODES; node++) {
                Check.same("in units", x.share(reader, node) * 1000000, x.landed(reader, node), 1000.0);
            }
        }
    }

    private static void wrong() {
        Shelfwalk x = new Shelfwalk();
        Check.noPlace("reader below", () -> x.share(-1, 0));
        Check.noPlace("reader beyond", () -> x.share(4, 0));
        Check.noPlace("node below", () -> x.share(0, -1));
        Check.noPlace("node beyond", () -> x.share(0, 9));
    }
}
