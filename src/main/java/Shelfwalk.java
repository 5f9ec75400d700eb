/** Recommends books to readers by walks over their loans. */
public final class Shelfwalk {
    public static final int NONE = -1;
    public static final int OPEN = 0, HIDDEN = 1, CLOSED = 2;

    private static final int READERS = 4;
    private static final int BOOKS = 5;
    private static final int NODES = READERS + BOOKS;

    private static final int LIGHTEST = 1;
    private static final int HEAVIEST = 99;
    private static final int UNITS = 1000000;

    private static final int LEAST_DAMPING = 50;
    private static final int FIRST_DAMPING = 80;
    private static final int MOST_DAMPING = 90;
    private static final int LEAST_BOUND = 100;
    private static final int FIRST_BOUND = 1000;
    private static final int MOST_BOUND = 100000;

    private static final int EARLIER_BOOK = 0;
    private static final int OTHER_READER = 1;
    private static final int CARRIED = 2;

    private final Net net = new Net();
    private final Walk[] walks = new Walk[READERS];
    private final Ranking ranking = new Ranking();
    private final Elimination elimination = new Elimination();
    private final StringBuilder line = new StringBuilder();
    private int damping = FIRST_DAMPING;
    private int bound = FIRST_BOUND;

    public Shelfwalk() {
        for (int reader = 0; reader < READERS; reader++) {
            walks[reader] = new Walk(reader);
        }
        beginWalks();
    }

    public int loan(int reader, int book, int weight) throws IndexOutOfBoundsException, IllegalArgumentException {
        checkReader(reader);
        checkBook(book);
        checkRange(weight, LIGHTEST, HEAVIEST);
        int heavier = Math.min(HEAVIEST, net.loanWeight(reader, book) + weight);
        net.setLoan(reader, book, heavier);
        mendWalks();
        return heavier;
    }

    public int strike(int reader, int book) throws IndexOutOfBoundsException, IllegalStateException {
        checkReader(reader);
        checkBook(book);
        int weight = net.loanWeight(reader, book);
        if (weight == 0) {
            throw new IllegalStateException("no such loan");
        }
        net.setLoan(reader, book, 0);
        mendWalks();
        return weight;
    }

    public int fade() {
        int left = net.halveLoans();
        mendWalks();
        return left;
    }

    public int bar(int book, int how) throws IndexOutOfBoundsException, IllegalArgumentException {
        checkBook(book);
        checkRange(how, OPEN, CLOSED);
        int before = net.barOf(book);
        net.setBar(book, how);
        mendWalks();
        return before;
    }

    public void walk(int damping, int bound) throws IllegalArgumentException {
        checkRange(damping, LEAST_DAMPING, MOST_DAMPING);
        checkRange(bound, LEAST_BOUND, MOST_BOUND);
        this.damping = damping;
        this.bound = bound;
        beginWalks();
    }

    public int landed(int reader, int node) throws IndexOutOfBoundsException {
        checkReader(reader);
        checkNode(node);
        return (int) walks[reader].landedAt(node);
    }

    public int rest(int reader, int node) throws IndexOutOfBoundsException {
        checkReader(reader);
        checkNode(node);
        return (int) walks[reader].restOf(node);
    }

    public int sent(int reader, int node, int other) throws IndexOutOfBoundsException {
        checkReader(reader);
        checkNode(node);
        checkNode(other);
        return (int) walks[reader].sentTo(node, other);
    }

    public int pushes() {
        int all = 0;
        for (int reader = 0; reader < READERS; reader++) {
            all += walks[reader].pushCount();
        }
        return all;
    }

    public int listed(int reader, int place) throws IndexOutOfBoundsException {
        checkReader(reader);
        checkPlace(place);
        rankBooks(reader);
        int found = ranking.find(place);
        return found == NONE ? NONE : ranking.bookAt(found);
    }

    public int way(int reader, int book, int place, int what)
            throws IndexOutOfBoundsException, IllegalArgumentException {
        checkReader(reader);
        checkBook(book);
        checkPlace(place);
        checkRange(what, EARLIER_BOOK, CARRIED);
        rankWays(reader, book);
        int found = ranking.find(place);
        if (found == NONE) {
            return NONE;
        }
        if (what == EARLIER_BOOK) {
            return ranking.bookAt(found);
        }
        return what == OTHER_READER ? ranking.readerAt(found) : (int) ranking.worthAt(found);
    }

    public double share(int reader, int node) throws IndexOutOfBoundsException {
        checkReader(reader);
        checkNode(node);
        elimination.solve(net, reader, damping);
        return elimination.solutionOf(node);
    }

    public char text(int reader, int book, int place) throws IndexOutOfBoundsException {
        checkReader(reader);
        checkBook(book);
        checkPlace(place);
        writeLine(reader, book);
        return place < line.length() ? line.charAt(place) : (char) 0;
    }

    private static void checkReader(int reader) throws IndexOutOfBoundsException {
        if (reader < 0 || reader >= READERS) {
            throw new IndexOutOfBoundsException("no such reader");
        }
    }

    private static void checkBook(int book) throws IndexOutOfBoundsException {
        if (book < 0 || book >= BOOKS) {
            throw new IndexOutOfBoundsException("no such book");
        }
    }

    private static void checkNode(int node) throws IndexOutOfBoundsException {
        if (node < 0 || node >= NODES) {
            throw new IndexOutOfBoundsException("no such node");
        }
    }

    private static void checkPlace(int place) throws IndexOutOfBoundsException {
        if (place < 0) {
            throw new IndexOutOfBoundsException("no such place");
        }
    }

    private static void checkRange(int number, int least, int most) throws IllegalArgumentException {
        if (number < least || number > most) {
            throw new IllegalArgumentException("out of range");
        }
    }

    private void beginWalks() {
        for (int reader = 0; reader < READERS; reader++) {
            walks[reader].begin();
            walks[reader].settle(net, damping, bound);
        }
    }

    // Also runs where the net is as it was: sending anew rounds otherwise than the pushes did.
    private void mendWalks() {
        for (int reader = 0; reader < READERS; reader++) {
            walks[reader].mend(net);
            walks[reader].settle(net, damping, bound);
        }
    }

    private void rankBooks(int reader) {
        ranking.clear();
        for (int book = 0; book < BOOKS; book++) {
            if (net.barOf(book) == OPEN && net.loanWeight(reader, book) == 0) {
                ranking.add(walks[reader].landedAt(READERS + book), book, reader);
            }
        }
    }

    private void rankWays(int reader, int book) {
        ranking.clear();
        for (int earlier = 0; earlier < BOOKS; earlier++) {
            for (int other = 0; other < READERS; other++) {
                if (isWay(reader, earlier, other, book)) {
                    ranking.add(carriedOver(reader, earlier, other, book), earlier, other);
                }
            }
        }
    }

    private boolean isWay(int reader, int earlier, int other, int book) {
        return earlier != book
            && other != reader
            && net.walkedWeight(reader, READERS + earlier) > 0
            && net.walkedWeight(READERS + earlier, other) > 0
            && net.walkedWeight(other, READERS + book) > 0;
    }

    private long carriedOver(int reader, int earlier, int other, int book) {
        long carried = carriedFrom(UNITS, reader, READERS + earlier);
        carried = carriedFrom(carried, READERS + earlier, other);
        return carriedFrom(carried, other, READERS + book);
    }

    private long carriedFrom(long carried, int node, int next) {
        int all = net.weightOfAll(node);
        return all == 0 ? 0 : carried * net.walkedWeight(node, next) / all;
    }

    private void writeLine(int reader, int book) {
        line.setLength(0);
        int weight = net.loanWeight(reader, book);
        if (weight == 0) {
            line.append("none");
            return;
        }
        line.append('r').append(reader).append("-b").append(book);
        line.append(':').append(weight).append(barText(net.barOf(book)));
    }

    private static String barText(int how) {
        if (how == OPEN) {
            return " open";
        }
        return how == HIDDEN ? " hidden" : " closed";
    }

    /** The loans and bars, and what of them is walked. */
    private static final class Net {
        private final int[][] loans = new int[READERS][BOOKS];
        private final int[] bars = new int[BOOKS];

        // What follows is told by the rows above; it is kept since each push asks for it.
        private final int[][] walked = new int[NODES][NODES];
        private final int[][] neighbours = new int[NODES][NODES];
        private final int[] neighbourCounts = new int[NODES];
        private final int[] sums = new int[NODES];

        int loanWeight(int reader, int book) {
            return loans[reader][book];
        }

        int barOf(int book) {
            return bars[book];
        }

        int walkedWeight(int node, int other) {
            return walked[node][other];
        }

        /** Counts from 0, by rising numbers. */
        int neighbour(int node, int count) {
            return neighbours[node][count];
        }

        int neighbourCount(int node) {
            return neighbourCounts[node];
        }

        /** 0 for a node without neighbours of its own. */
        int weightOfAll(int node) {
            return sums[node];
        }

        void setLoan(int reader, int book, int weight) {
            loans[reader][book] = weight;
            tellWalked();
        }

        void setBar(int book, int how) {
            bars[book] = how;
            tellWalked();
        }

        int halveLoans() {
            int left = 0;
            for (int reader = 0; reader < READERS; reader++) {
                for (int book = 0; book < BOOKS; book++) {
                    loans[reader][book] /= 2;
                    left += loans[reader][book] > 0 ? 1 : 0;
                }
            }
            tellWalked();
            return left;
        }

        // Readers rise in the outer loop and books in the inner one, so all neighbours come by rising numbers.
        private void tellWalked() {
            for (int node = 0; node < NODES; node++) {
                neighbourCounts[node] = 0;
                sums[node] = 0;
            }
            for (int reader = 0; reader < READERS; reader++) {
                for (int book = 0; book < BOOKS; book++) {
                    int weight = bars[book] == CLOSED ? 0 : loans[reader][book];
                    tellNeighbour(reader, READERS + book, weight);
                    tellNeighbour(READERS + book, reader, weight);
                }
            }
        }

        private void tellNeighbour(int node, int other, int weight) {
            walked[node][other] = weight;
            int count = neighbourCounts[node];
            if (weight > 0 && count < NODES) {
                neighbours[node][count] = other;
                neighbourCounts[node] = count + 1;
                sums[node] += weight;
            }
        }
    }

    /** The walk of one reader. */
    private static final class Walk {
        // Each push lands 10 units or more; of the rests, without signs, there are never 100 million.
        private static final int MOST_PUSHES = 10000000;

        private final int reader;
        private final long[] landings = new long[NODES];
        private final long[] rests = new long[NODES];
        private final long[][] sendings = new long[NODES][NODES];
        private int pushed = 0;

        Walk(int reader) {
            this.reader = reader;
        }

        long landedAt(int node) {
            return landings[node];
        }

        long restOf(int node) {
            return rests[node];
        }

        long sentTo(int node, int other) {
            return sendings[node][other];
        }

        int pushCount() {
            return pushed;
        }

        void begin() {
            for (int node = 0; node < NODES; node++) {
                landings[node] = 0;
                rests[node] = 0;
                for (int other = 0; other < NODES; other++) {
                    sendings[node][other] = 0;
                }
            }
            rests[reader] = UNITS;
        }

        void settle(Net net, int damping, int bound) {
            int node = lowestUnsettled(bound);
            for (int count = 0; count < MOST_PUSHES && node != NONE; count++) {
                push(net, node, damping);
                node = lowestUnsettled(bound);
            }
        }

        void mend(Net net) {
            for (int node = 0; node < NODES; node++) {
                send(net, node, takeBack(node));
            }
        }

        private int lowestUnsettled(int bound) {
            for (int node = 0; node < NODES; node++) {
                if (rests[node] >= bound || rests[node] <= -bound) {
                    return node;
                }
            }
            return NONE;
        }

        private void push(Net net, int node, int damping) {
            long taken = rests[node];
            long landing = taken * (100 - damping) / 100;
            rests[node] = 0;
            landings[node] += landing;
            send(net, node, taken - landing);
            pushed++;
        }

        private long takeBack(int node) {
            long all = 0;
            for (int other = 0; other < NODES; other++) {
                long units = sendings[node][other];
                all += units;
                rests[other] -= units;
                sendings[node][other] = 0;
            }
            return all;
        }

        // The lowest neighbour's part and what is over are, in one, what the others do not get.
        private void send(Net net, int node, long units) {
            int count = net.neighbourCount(node);
            int sum = net.weightOfAll(node);
            if (count == 0 || sum == 0) {
                give(node, reader, units);
                return;
            }
            long left = units;
            for (int k = 1; k < count; k++) {
                int other = net.neighbour(node, k);
                long part = units * net.walkedWeight(node, other) / sum;
                give(node, other, part);
                left -= part;
            }
            give(node, net.neighbour(node, 0), left);
        }

        private void give(int node, int other, long units) {
            rests[other] += units;
            sendings[node][other] += units;
        }
    }

    /** Greater worths first; those with the same worth stay in the order in which they were added. */
    private static final class Ranking {
        private static final int MOST = READERS * BOOKS;

        private final long[] worths = new long[MOST];
        private final int[] books = new int[MOST];
        private final int[] readers = new int[MOST];
        private int size = 0;

        void clear() {
            size = 0;
        }

        void add(long worth, int book, int reader) {
            if (size < MOST) {
                worths[size] = worth;
                books[size] = book;
                readers[size] = reader;
                size++;
            }
        }

        /** Answers where the entry of a place was put, or NONE. */
        int find(int place) {
            for (int entry = 0; entry < size; entry++) {
                if (countAhead(entry) == place) {
                    return entry;
                }
            }
            return NONE;
        }

        long worthAt(int entry) {
            return worths[entry];
        }

        int bookAt(int entry) {
            return books[entry];
        }

        int readerAt(int entry) {
            return readers[entry];
        }

        private int countAhead(int entry) {
            int ahead = 0;
            for (int other = 0; other < size; other++) {
                if (worths[other] > worths[entry] || worths[other] == worths[entry] && other < entry) {
                    ahead++;
                }
            }
            return ahead;
        }
    }

    /** Each step in the order of the document: doubles round otherwise in another one. */
    private static final class Elimination {
        private final double[][] matrix = new double[NODES][NODES];
        private final double[] right = new double[NODES];
        private final double[] solution = new double[NODES];

        double solutionOf(int node) {
            return solution[node];
        }

        void solve(Net net, int reader, int damping) {
            fill(net, reader, damping);
            for (int k = 0; k < NODES; k++) {
                eliminateBehind(k);
            }
            for (int i = NODES - 1; i >= 0; i--) {
                solveRow(i);
            }
        }

        private void fill(Net net, int reader, int damping) {
            double damped = damping / 100.0;
            for (int i = 0; i < NODES; i++) {
                for (int j = 0; j < NODES; j++) {
                    matrix[i][j] = (i == j ? 1.0 : 0.0) - damped * partSent(net, reader, j, i);
                }
                right[i] = i == reader ? 1.0 - damped : 0.0;
            }
        }

        private static double partSent(Net net, int reader, int node, int other) {
            if (net.weightOfAll(node) == 0) {
                return other == reader ? 1.0 : 0.0;
            }
            return quotient(net.walkedWeight(node, other), net.weightOfAll(node));
        }

        private void eliminateBehind(int k) {
            for (int i = k + 1; i < NODES; i++) {
                double f = quotient(matrix[i][k], matrix[k][k]);
                for (int j = k; j < NODES; j++) {
                    matrix[i][j] -= f * matrix[k][j];
                }
                right[i] -= f * right[k];
            }
        }

        private void solveRow(int i) {
            double left = right[i];
            for (int j = i + 1; j < NODES; j++) {
                left -= matrix[i][j] * solution[j];
            }
            solution[i] = quotient(left, matrix[i][i]);
        }

        // No divisor here is ever 0.0: each column's diagonal outweighs the rest of it.
        private static double quotient(double number, double divisor) {
            return divisor == 0.0 ? 0.0 : number / divisor;
        }
    }
}
