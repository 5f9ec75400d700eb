/** Objects with the nets that several tests ask. */
final class Nets {
    private Nets() {
    }

    static Shelfwalk empty() {
        return new Shelfwalk();
    }

    /** All twenty loans, with the greatest weight. */
    static Shelfwalk full() {
        return fullOf(99);
    }

    static Shelfwalk fullOf(int weight) {
        Shelfwalk x = new Shelfwalk();
        for (int reader = 0; reader < State.READERS; reader++) {
            for (int book = 0; book < State.BOOKS; book++) {
                x.loan(reader, book, weight);
            }
        }
        return x;
    }

    /** By halves, with the greatest bound: the fewest pushes, to be counted by hand. */
    static Shelfwalk halves() {
        Shelfwalk x = new Shelfwalk();
        x.walk(50, 100000);
        return x;
    }

    /** Reader 0 with books 0, 1 and so on by these weights, begun anew by halves. */
    static Shelfwalk halvesOf(int... weights) {
        Shelfwalk x = new Shelfwalk();
        for (int book = 0; book < weights.length; book++) {
            x.loan(0, book, weights[book]);
        }
        x.walk(50, 100000);
        return x;
    }

    /** Each bar, each book with a loan, and walks just begun, with parts rounded: all of them change when mended. */
    static Shelfwalk rough() {
        Shelfwalk x = new Shelfwalk();
        int[][] loans = {{0, 0, 7}, {0, 1, 20}, {0, 2, 33}, {1, 0, 46}, {1, 1, 59}, {1, 3, 72},
            {2, 1, 85}, {2, 2, 99}, {2, 4, 12}, {3, 0, 25}, {3, 2, 38}, {3, 3, 51}};
        for (int[] loan : loans) {
            x.loan(loan[0], loan[1], loan[2]);
        }
        x.bar(3, Shelfwalk.HIDDEN);
        x.bar(4, Shelfwalk.CLOSED);
        x.walk(60, 200);
        return x;
    }

    /** That a call that leaves the rough net as it was mends each of its walks. */
    static void checkMended(String what, Check.Use use) {
        for (int reader = 0; reader < State.READERS; reader++) {
            Shelfwalk mended = rough();
            use.on(mended);
            Check.other(what + ", walk of " + reader, State.walkOf(mended, reader), State.walkOf(rough(), reader));
        }
    }
}
