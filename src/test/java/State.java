import java.util.function.Supplier;

/** All that an object answers. Each part asks an object of its own, since none is promised more than 512 calls. */
final class State {
    static final int READERS = 4;
    static final int BOOKS = 5;
    static final int NODES = 9;

    private State() {
    }

    static String of(Check.Made made) {
        return ofAsked(() -> new Asking(made.get()));
    }

    static String ofAsked(Supplier<Asked> made) {
        StringBuilder all = new StringBuilder();
        all.append("pushes ").append(made.get().pushes()).append('\n');
        for (int reader = 0; reader < READERS; reader++) {
            addWalk(made.get(), reader, all);
            addLists(made.get(), reader, all);
            addWays(made.get(), reader, all);
        }
        addNextChanges(made.get(), all);
        return all.toString();
    }

    /** Only what is told of walks and shares, without the count of pushes. */
    static String walksOf(Check.Made made) {
        StringBuilder all = new StringBuilder();
        for (int reader = 0; reader < READERS; reader++) {
            addWalk(new Asking(made.get()), reader, all);
        }
        return all.toString();
    }

    static String walkOf(Shelfwalk x, int reader) {
        StringBuilder all = new StringBuilder();
        addWalk(new Asking(x), reader, all);
        return all.toString();
    }

    static String text(Shelfwalk x, int reader, int book) {
        return text(new Asking(x), reader, book);
    }

    private static String text(Asked x, int reader, int book) {
        StringBuilder text = new StringBuilder();
        for (int place = 0; place < 20; place++) {
            char sign = x.text(reader, book, place);
            if (sign == 0) {
                return text.toString();
            }
            text.append(sign);
        }
        return text.toString();
    }

    private static void addWalk(Asked x, int reader, StringBuilder all) {
        for (int node = 0; node < NODES; node++) {
            all.append("walk ").append(reader).append(", node ").append(node).append(": ");
            all.append(x.landed(reader, node)).append(' ').append(x.rest(reader, node));
            all.append(' ').append(x.share(reader, node)).append(", sent");
            for (int other = 0; other < NODES; other++) {
                all.append(' ').append(x.sent(reader, node, other));
            }
            all.append('\n');
        }
    }

    private static void addLists(Asked x, int reader, StringBuilder all) {
        all.append("list ").append(reader).append(':');
        for (int place = 0; place <= BOOKS; place++) {
            all.append(' ').append(x.listed(reader, place));
        }
        for (int book = 0; book < BOOKS; book++) {
            all.append('\n').append(text(x, reader, book));
        }
        all.append('\n');
    }

    private static void addWays(Asked x, int reader, StringBuilder all) {
        for (int book = 0; book < BOOKS; book++) {
            all.append("ways ").append(reader).append(' ').append(book).append(':');
            for (int place = 0; place <= 12; place++) {
                all.append(", ").append(x.way(reader, book, place, 0));
                all.append(' ').append(x.way(reader, book, place, 1));
                all.append(' ').append(x.way(reader, book, place, 2));
            }
            all.append('\n');
        }
    }

    /** Bars without loans, and the bound, show in what comes next. */
    private static void addNextChanges(Asked x, StringBuilder all) {
        all.append("next loan ").append(x.loan(3, 4, 1)).append(", how books were");
        for (int book = 0; book < BOOKS; book++) {
            all.append(' ').append(x.bar(book, Shelfwalk.OPEN));
        }
        all.append(", pushes ").append(x.pushes()).append('\n');
        for (int reader = 0; reader < READERS; reader++) {
            for (int node = 0; node < NODES; node++) {
                all.append(x.landed(reader, node)).append(' ').append(x.rest(reader, node)).append('\n');
            }
        }
        all.append("next fade ").append(x.fade()).append('\n');
    }
}
