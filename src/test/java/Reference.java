import java.math.BigInteger;
import java.util.ArrayList;
import java.util.Comparator;
import java.util.List;
import java.util.Map;
import java.util.TreeMap;

/** The document's words, once more and in another way, for runs of any calls. */
final class Reference implements Asked {
    private static final int READERS = State.READERS;
    private static final int BOOKS = State.BOOKS;
    private static final int NODES = State.NODES;

    /** A loan's key is its reader times 10 and its book. */
    private final Map<Integer, Integer> loans = new TreeMap<>();
    private final int[] bars = new int[BOOKS];
    private final BigInteger[][] landed = new BigInteger[READERS][NODES];
    private final BigInteger[][] rest = new BigInteger[READERS][NODES];
    private final BigInteger[][][] sent = new BigInteger[READERS][NODES][NODES];
    private int damping = 80;
    private int bound = 1000;
    private int pushes = 0;

    Reference() {
        begin();
    }

    public int loan(int reader, int book, int weight) {
        known(reader, READERS);
        known(book, BOOKS);
        inRange(weight, 1, 99);
        int sum = loans.getOrDefault(reader * 10 + book, 0) + weight;
        loans.put(reader * 10 + book, sum > 99 ? 99 : sum);
        mend();
        return sum > 99 ? 99 : sum;
    }

    public int strike(int reader, int book) {
        known(reader, READERS);
        known(book, BOOKS);
        if (!isLoan(reader, book)) {
            throw new IllegalStateException();
        }
        int weight = loans.remove(reader * 10 + book);
        mend();
        return weight;
    }

    public int fade() {
        loans.replaceAll((loan, weight) -> weight / 2);
        loans.values().removeIf(weight -> weight == 0);
        mend();
        return loans.size();
    }

    public int bar(int book, int how) {
        known(book, BOOKS);
        inRange(how, 0, 2);
        int before = bars[book];
        bars[book] = how;
        mend();
        return before;
    }

    public void walk(int newDamping, int newBound) {
        inRange(newDamping, 50, 90);
        inRange(newBound, 100, 100000);
        damping = newDamping;
        bound = newBound;
        begin();
    }

    public int landed(int reader, int node) {
        known(reader, READERS);
        known(node, NODES);
        return landed[reader][node].intValueExact();
    }

    public int rest(int reader, int node) {
        known(reader, READERS);
        known(node, NODES);
        return rest[reader][node].intValueExact();
    }

    public int sent(int reader, int node, int other) {
        known(reader, READERS);
        known(node, NODES);
        known(other, NODES);
        return sent[reader][node][other].intValueExact();
    }

    public int pushes() {
        return pushes;
    }

    public int listed(int reader, int place) {
        known(reader, READERS);
        isPlace(place);
        List<Integer> list = list(reader);
        return place < list.size() ? list.get(place) : -1;
    }

    public int way(int reader, int book, int place, int what) {
        known(reader, READERS);
        known(book, BOOKS);
        isPlace(place);
        inRange(what, 0, 2);
        List<int[]> ways = ways(reader, book);
        return place < ways.size() ? ways.get(place)[what] : -1;
    }

    public double share(int reader, int node) {
        known(reader, READERS);
        known(node, NODES);
        return shares(reader)[node];
    }

    public char text(int reader, int book, int place) {
        known(reader, READERS);
        known(book, BOOKS);
        isPlace(place);
        String text = text(reader, book);
        return place < text.length() ? text.charAt(place) : 0;
    }

    private static void known(int number, int count) {
        if (number < 0 || number >= count) {
            throw new IndexOutOfBoundsException();
        }
    }

    private static void isPlace(int place) {
        if (place < 0) {
            throw new IndexOutOfBoundsException();
        }
    }

    private static void inRange(int number, int least, int most) {
        if (number < least || number > most) {
            throw new IllegalArgumentException();
        }
    }

    private boolean isLoan(int reader, int book) {
        return loans.containsKey(reader * 10 + book);
    }

    private List<Integer> list(int reader) {
        List<Integer> books = new ArrayList<>();
        for (int book = 0; book < BOOKS; book++) {
            if (bars[book] == 0 && !isLoan(reader, book)) {
                books.add(book);
            }
        }
        Comparator<Integer> byLanded = Comparator.comparing(book -> landed[reader][4 + book]);
        books.sort(byLanded.reversed().thenComparing(Comparator.naturalOrder()));
        return books;
    }

    /** Each way as the earlier book, the other reader, and what it carries. */
    private List<int[]> ways(int reader, int book) {
        List<int[]> ways = new ArrayList<>();
        for (int other = 0; other < READERS; other++) {
            for (int earlier = 0; earlier < BOOKS; earlier++) {
                if (other != reader && earlier != book && isWalked(reader, earlier)
                        && isWalked(other, earlier) && isWalked(other, book)) {
                    long carried = 1000000L * loans.get(reader * 10 + earlier) / sumOf(reader);
                    carried = carried * loans.get(other * 10 + earlier) / sumOf(4 + earlier);
                    carried = carried * loans.get(other * 10 + book) / sumOf(other);
                    ways.add(new int[] {earlier, other, (int) carried});
                }
            }
        }
        ways.sort(Comparator.comparingInt((int[] way) -> -way[2])
            .thenComparingInt(way -> way[0]).thenComparingInt(way -> way[1]));
        return ways;
    }

    private double[] shares(int reader) {
        double[][] a = new double[NODES][NODES + 1];
        for (int j = 0; j < NODES; j++) {
            Map<Integer, Integer> neighbours = neighbours(reader, j);
            int sum = neighbours.values().stream().mapToInt(Integer::intValue).sum();
            for (int i = 0; i < NODES; i++) {
                double part = neighbours.containsKey(i) ? (double) neighbours.get(i) / (double) sum : 0.0;
                a[i][j] = (i == j ? 1.0 : 0.0) - damping / 100.0 * part;
            }
        }
        a[reader][NODES] = 1.0 - damping / 100.0;
        for (int k = 0; k < NODES; k++) {
            for (int i = k + 1; i < NODES; i++) {
                double f = a[i][k] / a[k][k];
                for (int j = k; j <= NODES; j++) {
                    a[i][j] = a[i][j] - f * a[k][j];
                }
            }
        }
        double[] x = new double[NODES];
        for (int i = NODES - 1; i >= 0; i--) {
            x[i] = a[i][NODES];
            for (int j = i + 1; j < NODES; j++) {
                x[i] = x[i] - a[i][j] * x[j];
            }
            x[i] = x[i] / a[i][i];
        }
        return x;
    }

    private String text(int reader, int book) {
        String[] names = {"open", "hidden", "closed"};
        return isLoan(reader, book)
            ? String.format("r%d-b%d:%d %s", reader, book, loans.get(reader * 10 + book), names[bars[book]])
            : "none";
    }

    private boolean isWalked(int reader, int book) {
        return isLoan(reader, book) && bars[book] != 2;
    }

    private int sumOf(int node) {
        return neighbours(0, node).values().stream().mapToInt(Integer::intValue).sum();
    }

    private Map<Integer, Integer> neighbours(int reader, int node) {
        Map<Integer, Integer> found = new TreeMap<>();
        loans.forEach((loan, weight) -> {
            if (isWalked(loan / 10, loan % 10) && loan / 10 == node) {
                found.put(4 + loan % 10, weight);
            }
            if (isWalked(loan / 10, loan % 10) && 4 + loan % 10 == node) {
                found.put(loan / 10, weight);
            }
        });
        if (found.isEmpty()) {
            found.put(reader, 1);
        }
        return found;
    }

    private void begin() {
        for (int reader = 0; reader < READERS; reader++) {
            for (int node = 0; node < NODES; node++) {
                landed[reader][node] = BigInteger.ZERO;
                rest[reader][node] = BigInteger.valueOf(node == reader ? 1000000 : 0);
                for (int other = 0; other < NODES; other++) {
                    sent[reader][node][other] = BigInteger.ZERO;
                }
            }
            settle(reader);
        }
    }

    private void mend() {
        for (int reader = 0; reader < READERS; reader++) {
            for (int node = 0; node < NODES; node++) {
                BigInteger m = BigInteger.ZERO;
                for (int other = 0; other < NODES; other++) {
                    m = m.add(sent[reader][node][other]);
                    rest[reader][other] = rest[reader][other].subtract(sent[reader][node][other]);
                    sent[reader][node][other] = BigInteger.ZERO;
                }
                spread(reader, node, m);
            }
            settle(reader);
        }
    }

    private void settle(int reader) {
        int node = 0;
        while (node < NODES) {
            if (rest[reader][node].abs().compareTo(BigInteger.valueOf(bound)) < 0) {
                node++;
                continue;
            }
            BigInteger r = rest[reader][node];
            BigInteger lands = r.multiply(BigInteger.valueOf(100 - damping)).divide(BigInteger.valueOf(100));
            rest[reader][node] = BigInteger.ZERO;
            landed[reader][node] = landed[reader][node].add(lands);
            spread(reader, node, r.subtract(lands));
            pushes++;
            node = 0;
        }
    }

    private void spread(int reader, int node, BigInteger m) {
        Map<Integer, Integer> neighbours = neighbours(reader, node);
        BigInteger sum = BigInteger.valueOf(neighbours.values().stream().mapToInt(Integer::intValue).sum());
        BigInteger over = m;
        for (Map.Entry<Integer, Integer> neighbour : neighbours.entrySet()) {
            BigInteger part = m.multiply(BigInteger.valueOf(neighbour.getValue())).divide(sum);
            give(reader, node, neighbour.getKey(), part);
            over = over.subtract(part);
        }
        give(reader, node, neighbours.keySet().iterator().next(), over);
    }

    private void give(int reader, int node, int other, BigInteger units) {
        rest[reader][other] = rest[reader][other].add(units);
        sent[reader][node][other] = sent[reader][node][other].add(units);
    }
}
