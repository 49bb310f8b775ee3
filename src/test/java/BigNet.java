import java.math.BigInteger;
import java.util.Arrays;
import java.util.Random;

/** A net and the arcs it is due to have, asked for sums held against whole numbers of any size. */
final class BigNet {
    private final Check check;
    private final TreeCounts net;
    private final String name;
    private final int nodes;
    private final int[][] arcs;

    /** The net has so many nodes and these arcs, as from, to, weight; it has at least one arc. */
    BigNet(Check check, String name, TreeCounts net, int nodes, int[][] arcs) {
        this.check = check;
        this.name = name;
        this.net = net;
        this.nodes = nodes;
        this.arcs = arcs;
    }

    private void due(String call, long got, BigInteger want) {
        check.holds(name + ": " + call + " answered " + got + ", due is " + want, BigInteger.valueOf(got).equals(want));
    }

    private BigInteger[][] square(boolean bothWays) {
        BigInteger[][] square = new BigInteger[nodes][nodes];
        for (BigInteger[] row : square) {
            Arrays.fill(row, BigInteger.ZERO);
        }
        for (int[] arc : arcs) {
            BigInteger weight = BigInteger.valueOf(arc[2]);
            for (int way = 0; way < (bothWays ? 2 : 1); way++) {
                int from = arc[way];
                int to = arc[1 - way];
                square[from][from] = square[from][from].add(weight);
                square[from][to] = square[from][to].subtract(weight);
            }
        }
        return square;
    }

    private static BigInteger[][] without(BigInteger[][] square, int line) {
        BigInteger[][] less = new BigInteger[square.length - 1][square.length - 1];
        for (int r = 0; r < less.length; r++) {
            for (int c = 0; c < less.length; c++) {
                less[r][c] = square[r < line ? r : r + 1][c < line ? c : c + 1];
            }
        }
        return less;
    }

    /** By Bareiss, with exact divisions. */
    private static BigInteger determinant(BigInteger[][] square) {
        int size = square.length;
        BigInteger before = BigInteger.ONE;
        int sign = 1;
        for (int line = 0; line < size; line++) {
            int pivot = line;
            while (pivot < size && square[pivot][line].signum() == 0) {
                pivot++;
            }
            if (pivot == size) {
                return BigInteger.ZERO;
            }
            BigInteger[] row = square[pivot];
            sign = pivot == line ? sign : -sign;
            square[pivot] = square[line];
            square[line] = row;
            for (int r = line + 1; r < size; r++) {
                for (int c = line + 1; c < size; c++) {
                    square[r][c] = square[r][c].multiply(row[line]).subtract(square[r][line].multiply(row[c])).divide(before);
                }
            }
            before = row[line];
        }
        return sign > 0 ? before : before.negate();
    }

    /** Some 370 calls. */
    void askAll(Random random) {
        BigInteger count = determinant(without(square(true), 0));
        due("trees()", net.trees(), count);
        for (int k = 0; k < arcs.length; k++) {
            int weight = arcs[k][2];
            arcs[k][2] = 0;
            due("through(" + k + ")", net.through(k), count.subtract(determinant(without(square(true), 0))));
            arcs[k][2] = weight;
        }
        BigInteger[][] marked = square(true);
        for (int node = 0; node < nodes; node++) {
            marked[node][node] = marked[node][node].add(BigInteger.ONE);
            due("rooted(" + node + ")", net.rooted(node), determinant(without(square(false), node)));
        }
        due("forests()", net.forests(), determinant(marked));
        for (int a = 0; a < nodes; a++) {
            for (int b = a + 1; b < nodes; b++) {
                askPair(a, b, count);
            }
        }
        askPlaces(random);
        askTours();
        askGroup();
        askChips(random);
    }

    private void askPair(int a, int b, BigInteger count) {
        BigInteger apart = determinant(without(without(square(true), b), a));
        due("apart(" + a + ", " + b + ")", net.apart(a, b), apart);
        due("apart(" + b + ", " + a + ")", net.apart(b, a), apart);
        BigInteger shared = apart.gcd(count);
        boolean whole = count.signum() > 0;
        due("resistance(" + a + ", " + b + ", 0)", net.resistance(a, b, 0), whole ? apart.divide(shared) : BigInteger.ONE.negate());
        due("resistance(" + b + ", " + a + ", 1)", net.resistance(b, a, 1), whole ? count.divide(shared) : BigInteger.ONE.negate());
    }

    private void askPlaces(Random random) {
        long count = net.trees();
        check.due(name + ": drawn behind the last", net.drawn(count), -1);
        check.due(name + ": drawn before the first", net.drawn(-1), -1);
        int taken = 0;
        for (int k = 0; k < 20 && count > 0; k++) {
            long place = k == 0 ? 0 : k == 1 ? count - 1 : Math.floorMod(random.nextLong(), count);
            int tree = net.drawn(place);
            long first = net.place(tree);
            long product = 1;
            for (int arc = 0; arc < arcs.length; arc++) {
                product *= (tree >> arc & 1) == 1 ? arcs[arc][2] : 1;
            }
            check.holds(name + ": place " + place + " in the places of its tree, " + first + " and on", first <= place && place < first + product);
            check.due(name + ": the tree at its first place", net.drawn(first), tree);
            check.due(name + ": the tree at its last place", net.drawn(first + product - 1), tree);
            check.due(name + ": arcs of a tree", Integer.bitCount(tree), nodes - 1);
            int next = net.drawn(first + product);
            check.holds(name + ": the next tree stands behind", next == -1
                || Integer.compareUnsigned(Integer.reverse(tree), Integer.reverse(next)) > 0);
            taken++;
        }
        check.holds(name + ": places asked", count == 0 || taken == 20);
    }

    void askTours() {
        BigInteger tours = BigInteger.ONE;
        BigInteger[][] square = square(false);
        for (int node = nodes - 1; node >= 0; node--) {
            int out = 0;
            int in = 0;
            for (int[] arc : arcs) {
                out += arc[0] == node ? arc[2] : 0;
                in += arc[1] == node ? arc[2] : 0;
            }
            for (int k = 2; k < out; k++) {
                tours = tours.multiply(BigInteger.valueOf(k));
            }
            tours = out == in ? tours : BigInteger.ZERO;
            if (out == 0 && in == 0) {
                square = without(square, node);
            }
        }
        // every net here has an arc, so there is a line left
        tours = tours.multiply(determinant(without(square, 0)));
        check.due(name + ": tours()", net.tours(), tours.longValue());
    }

    void askGroup() {
        BigInteger[][] square = without(square(true), 0);
        if (determinant(without(square(true), 0)).signum() == 0) {
            check.due(name + ": told(5)", net.told(5), 0);
            check.due(name + ": group(0)", net.group(0), -1);
            return;
        }
        int count = 0;
        for (int line = 0; line < square.length; line++) {
            BigInteger round = takeOut(square, line);
            if (!round.equals(BigInteger.ONE)) {
                due("group(" + count + ")", net.group(count), round);
                count++;
            }
        }
        check.due(name + ": told(5)", net.told(5), count);
        check.due(name + ": group behind the last", net.group(count), -1);
        check.due(name + ": group(-1)", net.group(-1), -1);
    }

    /** Brings the least common divisor of all that is left to the corner, by steps on rows and columns. */
    private static BigInteger takeOut(BigInteger[][] square, int line) {
        while (true) {
            int row = -1;
            int column = -1;
            for (int r = line; r < square.length; r++) {
                for (int c = line; c < square.length; c++) {
                    if (square[r][c].signum() != 0 && (row < 0 || square[r][c].abs().compareTo(square[row][column].abs()) < 0)) {
                        row = r;
                        column = c;
                    }
                }
            }
            BigInteger[] held = square[row];
            square[row] = square[line];
            square[line] = held;
            for (BigInteger[] each : square) {
                BigInteger entry = each[column];
                each[column] = each[line];
                each[line] = entry;
            }
            if (isCleared(square, line)) {
                return square[line][line].abs();
            }
        }
    }

    private static boolean isCleared(BigInteger[][] square, int line) {
        boolean clear = true;
        BigInteger pivot = square[line][line];
        for (int r = line + 1; r < square.length; r++) {
            BigInteger times = square[r][line].divide(pivot);
            for (int c = line; c < square.length; c++) {
                square[r][c] = square[r][c].subtract(times.multiply(square[line][c]));
            }
            clear &= square[r][line].signum() == 0;
        }
        for (int c = line + 1; clear && c < square.length; c++) {
            BigInteger times = square[line][c].divide(pivot);
            for (int r = line; r < square.length; r++) {
                square[r][c] = square[r][c].subtract(times.multiply(square[r][line]));
            }
            clear &= square[line][c].signum() == 0;
        }
        for (int r = line + 1; clear && r < square.length; r++) {
            for (int c = line + 1; clear && c < square.length; c++) {
                if (square[r][c].mod(pivot.abs()).signum() != 0) {
                    for (int k = line; k < square.length; k++) {
                        square[line][k] = square[line][k].add(square[r][k]);
                    }
                    clear = false;
                }
            }
        }
        return clear;
    }

    /** The chips move as the firings told say, and end settled; and none fired without need. */
    private void askChips(Random random) {
        int sink = random.nextInt(nodes);
        long[] before = new long[nodes];
        BigInteger[][] square = square(true);
        for (int node = 0; node < nodes; node++) {
            before[node] = random.nextInt(201);
            net.chips(node, (int) before[node]);
        }
        long fired = net.settle(sink);
        if (net.trees() == 0) {
            check.due(name + ": settle", fired, -1);
            return;
        }
        long[] one = before.clone();
        long[] counts = new long[nodes];
        boolean moved = true;
        while (moved) {
            moved = false;
            for (int node = 0; node < nodes; node++) {
                if (node != sink && one[node] >= square[node][node].longValue()) {
                    for (int other = 0; other < nodes; other++) {
                        one[other] -= square[node][other].longValue();
                    }
                    counts[node]++;
                    fired--;
                    moved = true;
                }
            }
        }
        check.due(name + ": settle less the firings", fired, 0);
        for (int node = 0; node < nodes; node++) {
            check.due(name + ": level(" + node + ")", net.level(node), one[node]);
            check.due(name + ": fired(" + node + ")", net.fired(node), counts[node]);
        }
    }
}
