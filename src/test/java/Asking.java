/** Hands each call on to an object of the class. */
final class Asking implements Asked {
    private final Shelfwalk x;

    Asking(Shelfwalk x) {
        this.x = x;
    }

    public int loan(int reader, int book, int weight) {
        return x.loan(reader, book, weight);
    }

    public int strike(int reader, int book) {
        return x.strike(reader, book);
    }

    public int fade() {
        return x.fade();
    }

    public int bar(int book, int how) {
        return x.bar(book, how);
    }

    public void walk(int damping, int bound) {
        x.walk(damping, bound);
    }

    public int landed(int reader, int node) {
        return x.landed(reader, node);
    }

    public int rest(int reader, int node) {
        return x.rest(reader, node);
    }

    public int sent(int reader, int node, int other) {
        return x.sent(reader, node, other);
    }

    public int pushes() {
        return x.pushes();
    }

    public int listed(int reader, int place) {
        return x.listed(reader, place);
    }

    public int way(int reader, int book, int place, int what) {
        return x.way(reader, book, place, what);
    }

    public double share(int reader, int node) {
        return x.share(reader, node);
    }

    public char text(int reader, int book, int place) {
        return x.text(reader, book, place);
    }
}
