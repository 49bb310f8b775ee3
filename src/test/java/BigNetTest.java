import java.math.BigInteger;
import java.util.Random;

/** Nets up to the limits (10 nodes, 30 arcs, weights 9), held against whole numbers of any size. */
public final class BigNetTest {
    private static final Check CHECK = new Check();

    private final TreeCounts net = new TreeCounts();
    private final String name;
    private final int nodes;
    private final int[][] arcs;

    private BigNetTest(String name, int nodes, int[][] arcs) {
        this.name = name;
        this.nodes = nodes;
        this.arcs = arcs;
        for (int node = 0; node < nodes; node++) {
            due("node()", net.node(), BigInteger.valueOf(node));
        }
        for (int k = 0; k < arcs.length; k++) {
            due("arc", net.arc(arcs[k][0], arcs[k][1], arcs[k][2]), BigInteger.valueOf(k));
        }
    }

    public static void main(String[] args) {
        Random random = new Random(20261115);
        for (int k = 0; k < 300 && CHECK.isClean(); k++) {
            new BigNetTest("net " + k, 10, anyArcs(random, 1 + random.nextInt(30), 1 + random.nextInt(9))).askAll(random);
            new BigNetTest("even net " + k, 10, evenArcs(random)).askAll(random);
            new BigNetTest("round net " + k, 10, roundArcs(random)).askTours();
            new BigNetTest("like net " + k, 10, likeArcs(random)).askGroup();
        }
        new BigNetTest("nines", 10, evenNines()).askAll(random);
        CHECK.end();
    }

    private static int[][] anyArcs(Random random, int count, int weight) {
        int[][] arcs = new int[count][];
        for (int k = 0; k < count; k++) {
            // most nets are whole: the first arcs hang each node on one before
            int from = k < 9 ? k + 1 : random.nextInt(10);
            int to = k < 9 ? random.nextInt(k + 1) : random.nextInt(10);
            arcs[k] = random.nextBoolean() ? new int[] {from, to, 1 + random.nextInt(weight)} : new int[] {to, from, 1 + random.nextInt(weight)};
        }
        return arcs;
    }

    /** All weights 8 or 9 and all nodes with six arcs: near the largest sums. */
    private static int[][] evenArcs(Random random) {
        int[][] arcs = evenNines();
        for (int[] arc : arcs) {
            arc[2] -= random.nextInt(2);
        }
        return arcs;
    }

    private static int[][] evenNines() {
        int[][] arcs = new int[30][];
        for (int k = 0; k < 30; k++) {
            int step = new int[] {1, 3, 4}[k / 10];
            arcs[k] = new int[] {k % 10, (k + step) % 10, 9};
        }
        return arcs;
    }

    /** Rounds one way, so that each node has as much in as out. */
    private static int[][] roundArcs(Random random) {
        int[][] arcs = new int[5 + random.nextInt(26)][];
        int done = 0;
        while (done < arcs.length) {
            int length = Math.min(arcs.length - done, 1 + random.nextInt(6));
            int weight = 1 + random.nextInt(4);
            int first = random.nextInt(10);
            int at = first;
            for (int k = 1; k <= length; k++) {
                int next = k == length ? first : random.nextInt(10);
                arcs[done++] = new int[] {at, next, weight};
                at = next;
            }
        }
        return arcs;
    }

    /** Many arcs alike, so that the group has several rounds. */
    private static int[][] likeArcs(Random random) {
        int[][] arcs = new int[30][];
        int weight = 2 + random.nextInt(8);
        int parts = 2 + random.nextInt(8);
        for (int k = 0; k < 30; k++) {
            arcs[k] = k < 9 ? new int[] {k + 1, random.nextInt(k + 1), weight}
                : new int[] {random.nextInt(parts), parts + random.nextInt(10 - parts), random.nextInt(5) == 0 ? 1 + random.nextInt(9) : weight};
        }
        return arcs;
    }

    private void due(String call, long got, BigInteger want) {
        CHECK.holds(name + ": " + call + " answered " + got + ", due is " + want, BigInteger.valueOf(got).equals(want));
    }

    private BigInteger[][] square(boolean bothWays) {
        BigInteger[][] square = new BigInteger[nodes][nodes];
        for (BigInteger[] row : square) {
            java.util.Arrays.fill(row, BigInteger.ZERO);
        }
        for (int[] arc : arcs) {
            BigInteger weight = BigInteger.valueOf(arc[2]);
            for (int way = 0; way < (bothWays ? 2 : 1); way++) {
                int from = arc[way];
                int to = arc[1 - way];
                square[from][from] = square[from][from].add(weight);
                square[from][to] = square[from][to].subtract(weight);
            }
        }
        return square;
    }

    private static BigInteger[][] without(BigInteger[][] square, int line) {
        BigInteger[][] less = new BigInteger[square.length - 1][square.length - 1];
        for (int r = 0; r < less.length; r++) {
            for (int c = 0; c < less.length; c++) {
                less[r][c] = square[r < line ? r : r + 1][c < line ? c : c + 1];
            }
        }
        return less;
    }

    /** By Bareiss, with exact divisions. */
    private static BigInteger determinant(BigInteger[][] square) {
        int size = square.length;
        BigInteger before = BigInteger.ONE;
        int sign = 1;
        for (int line = 0; line < size; line++) {
            int pivot = line;
            while (pivot < size && square[pivot][line].signum() == 0) {
                pivot++;
            }
            if (pivot == size) {
                return BigInteger.ZERO;
            }
            BigInteger[] row = square[pivot];
            sign = pivot == line ? sign : -sign;
            square[pivot] = square[line];
            square[line] = row;
            for (int r = line + 1; r < size; r++) {
                for (int c = line + 1; c < size; c++) {
                    square[r][c] = square[r][c].multiply(row[line]).subtract(square[r][line].multiply(row[c])).divide(before);
                }
            }
            before = row[line];
        }
        return sign > 0 ? before : before.negate();
    }

    private void askAll(Random random) {
        BigInteger count = determinant(without(square(true), 0));
        due("trees()", net.trees(), count);
        for (int k = 0; k < arcs.length; k++) {
            int weight = arcs[k][2];
            arcs[k][2] = 0;
            due("through(" + k + ")", net.through(k), count.subtract(determinant(without(square(true), 0))));
            arcs[k][2] = weight;
        }
        BigInteger[][] marked = square(true);
        for (int node = 0; node < nodes; node++) {
            marked[node][node] = marked[node][node].add(BigInteger.ONE);
            due("rooted(" + node + ")", net.rooted(node), determinant(without(square(false), node)));
        }
        due("forests()", net.forests(), determinant(marked));
        for (int a = 0; a < nodes; a++) {
            for (int b = a + 1; b < nodes; b++) {
                askPair(a, b, count);
            }
        }
        askPlaces(random);
        askTours();
        askGroup();
        askChips(random);
    }

    private void askPair(int a, int b, BigInteger count) {
        BigInteger apart = determinant(without(without(square(true), b), a));
        due("apart(" + a + ", " + b + ")", net.apart(a, b), apart);
        due("apart(" + b + ", " + a + ")", net.apart(b, a), apart);
        BigInteger shared = apart.gcd(count);
        boolean whole = count.signum() > 0;
        due("resistance(" + a + ", " + b + ", 0)", net.resistance(a, b, 0), whole ? apart.divide(shared) : BigInteger.ONE.negate());
        due("resistance(" + b + ", " + a + ", 1)", net.resistance(b, a, 1), whole ? count.divide(shared) : BigInteger.ONE.negate());
    }

    private void askPlaces(Random random) {
        long count = net.trees();
        CHECK.due(name + ": drawn behind the last", net.drawn(count), -1);
        CHECK.due(name + ": drawn before the first", net.drawn(-1), -1);
        int taken = 0;
        for (int k = 0; k < 20 && count > 0; k++) {
            long place = k == 0 ? 0 : k == 1 ? count - 1 : Math.floorMod(random.nextLong(), count);
            int tree = net.drawn(place);
            long first = net.place(tree);
            long product = 1;
            for (int arc = 0; arc < arcs.length; arc++) {
                product *= (tree >> arc & 1) == 1 ? arcs[arc][2] : 1;
            }
            CHECK.holds(name + ": place " + place + " in the places of its tree, " + first + " and on", first <= place && place < first + product);
            CHECK.due(name + ": the tree at its first place", net.drawn(first), tree);
            CHECK.due(name + ": the tree at its last place", net.drawn(first + product - 1), tree);
            CHECK.due(name + ": arcs of a tree", Integer.bitCount(tree), nodes - 1);
            int next = net.drawn(first + product);
            CHECK.holds(name + ": the next tree stands behind", next == -1
                || Integer.compareUnsigned(Integer.reverse(tree), Integer.reverse(next)) > 0);
            taken++;
        }
        CHECK.holds(name + ": places asked", count == 0 || taken == 20);
    }

    private void askTours() {
        BigInteger tours = BigInteger.ONE;
        BigInteger[][] square = square(false);
        for (int node = nodes - 1; node >= 0; node--) {
            int out = 0;
            int in = 0;
            for (int[] arc : arcs) {
                out += arc[0] == node ? arc[2] : 0;
                in += arc[1] == node ? arc[2] : 0;
            }
            for (int k = 2; k < out; k++) {
                tours = tours.multiply(BigInteger.valueOf(k));
            }
            tours = out == in ? tours : BigInteger.ZERO;
            if (out == 0 && in == 0) {
                square = without(square, node);
            }
        }
        // every net here has an arc, so there is a line left
        tours = tours.multiply(determinant(without(square, 0)));
        CHECK.due(name + ": tours()", net.tours(), tours.longValue());
    }

    private void askGroup() {
        BigInteger[][] square = without(square(true), 0);
        if (determinant(without(square(true), 0)).signum() == 0) {
            CHECK.due(name + ": told(5)", net.told(5), 0);
            CHECK.due(name + ": group(0)", net.group(0), -1);
            return;
        }
        int count = 0;
        for (int line = 0; line < square.length; line++) {
            BigInteger round = takeOut(square, line);
            if (!round.equals(BigInteger.ONE)) {
                due("group(" + count + ")", net.group(count), round);
                count++;
            }
        }
        CHECK.due(name + ": told(5)", net.told(5), count);
        CHECK.due(name + ": group behind the last", net.group(count), -1);
        CHECK.due(name + ": group(-1)", net.group(-1), -1);
    }

    /** Brings the least common divisor of all that is left to the corner, by steps on rows and columns. */
    private static BigInteger takeOut(BigInteger[][] square, int line) {
        while (true) {
            int row = -1;
            int column = -1;
            for (int r = line; r < square.length; r++) {
                for (int c = line; c < square.length; c++) {
                    if (square[r][c].signum() != 0 && (row < 0 || square[r][c].abs().compareTo(square[row][column].abs()) < 0)) {
                        row = r;
                        column = c;
                    }
                }
            }
            BigInteger[] held = square[row];
            square[row] = square[line];
            square[line] = held;
            for (BigInteger[] each : square) {
                BigInteger entry = each[column];
                each[column] = each[line];
                each[line] = entry;
            }
            if (isCleared(square, line)) {
                return square[line][line].abs();
            }
        }
    }

    private static boolean isCleared(BigInteger[][] square, int line) {
        boolean clear = true;
        BigInteger pivot = square[line][line];
        for (int r = line + 1; r < square.length; r++) {
            BigInteger times = square[r][line].divide(pivot);
            for (int c = line; c < square.length; c++) {
                square[r][c] = square[r][c].subtract(times.multiply(square[line][c]));
            }
            clear &= square[r][line].signum() == 0;
        }
        for (int c = line + 1; clear && c < square.length; c++) {
            BigInteger times = square[line][c].divide(pivot);
            for (int r = line; r < square.length; r++) {
                square[r][c] = square[r][c].subtract(times.multiply(square[r][line]));
            }
            clear &= square[line][c].signum() == 0;
        }
        for (int r = line + 1; clear && r < square.length; r++) {
            for (int c = line + 1; clear && c < square.length; c++) {
                if (square[r][c].mod(pivot.abs()).signum() != 0) {
                    for (int k = line; k < square.length; k++) {
                        square[line][k] = square[line][k].add(square[r][k]);
                    }
                    clear = false;
                }
            }
        }
        return clear;
    }

    /** The chips move as the firings told say, and end settled; and none fired without need. */
    private void askChips(Random random) {
        int sink = random.nextInt(nodes);
        long[] before = new long[nodes];
        BigInteger[][] square = square(true);
        for (int node = 0; node < nodes; node++) {
            before[node] = random.nextInt(201);
            net.chips(node, (int) before[node]);
        }
        long fired = net.settle(sink);
        if (net.trees() == 0) {
            CHECK.due(name + ": settle", fired, -1);
            return;
        }
        long[] one = before.clone();
        long[] counts = new long[nodes];
        boolean moved = true;
        while (moved) {
            moved = false;
            for (int node = 0; node < nodes; node++) {
                if (node != sink && one[node] >= square[node][node].longValue()) {
                    for (int other = 0; other < nodes; other++) {
                        one[other] -= square[node][other].longValue();
                    }
                    counts[node]++;
                    fired--;
                    moved = true;
                }
            }
        }
        CHECK.due(name + ": settle less the firings", fired, 0);
        for (int node = 0; node < nodes; node++) {
            CHECK.due(name + ": level(" + node + ")", net.level(node), one[node]);
            CHECK.due(name + ": fired(" + node + ")", net.fired(node), counts[node]);
        }
    }
}
