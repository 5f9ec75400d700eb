/** Asks an object for all that it answers. */
final class State {
    static final int READERS = 4;
    static final int BOOKS = 5;
    static final int NODES = 9;

    private State() {
    }

    static String of(Shelfwalk x) {
        StringBuilder all = new StringBuilder();
        all.append(x.pushes()).append('\n');
        for (int reader = 0; reader < READERS; reader++) {
            addWalk(x, reader, all);
            addBooks(x, reader, all);
        }
        return all.toString();
    }

    static String text(Shelfwalk x, int reader, int book) {
        StringBuilder text = new StringBuilder();
        for (int place = 0; place < 100; place++) {
            char sign = x.text(reader, book, place);
            if (sign == 0) {
                return text.toString();
            }
            text.append(sign);
        }
        return text.toString();
    }

    private static void addWalk(Shelfwalk x, int reader, StringBuilder all) {
        for (int node = 0; node < NODES; node++) {
            all.append(x.landed(reader, node)).append(' ').append(x.rest(reader, node));
            all.append(' ').append(x.share(reader, node));
            for (int other = 0; other < NODES; other++) {
                all.append(' ').append(x.sent(reader, node, other));
            }
            all.append('\n');
        }
    }

    private static void addBooks(Shelfwalk x, int reader, StringBuilder all) {
        for (int place = 0; place <= BOOKS; place++) {
            all.append(x.listed(reader, place)).append(' ');
        }
        for (int book = 0; book < BOOKS; book++) {
            all.append('\n').append(text(x, reader, book));
            for (int place = 0; place <= 12; place++) {
                for (int what = 0; what < 3; what++) {
                    all.append(' ').append(x.way(reader, book, place, what));
                }
            }
        }
        all.append('\n');
    }
}
