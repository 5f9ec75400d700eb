/** The face of the class, so that tests ask it and the reference in the same words. */
interface Asked {
    int loan(int reader, int book, int weight);

    int strike(int reader, int book);

    int fade();

    int bar(int book, int how);

    void walk(int damping, int bound);

    int landed(int reader, int node);

    int rest(int reader, int node);

    int sent(int reader, int node, int other);

    int pushes();

    int listed(int reader, int place);

    int way(int reader, int book, int place, int what);

    double share(int reader, int node);

    char text(int reader, int book, int place);
}
