import java.util.ArrayList;
import java.util.Arrays;
import java.util.List;

/** The sentences of 'Terms' that tell what a word means, taken by their words on all sets of arcs of small nets. */
public final class DefinitionsTest {
    /** The number of nodes, and then each arc as from, to, weight. */
    private static final int[][] NETS = {
        {0},
        {1},
        {1, 0, 0, 3, 0, 0, 5},
        {2},
        {2, 0, 1, 4, 1, 1, 2, 1, 0, 7},
        {3, 0, 1, 2, 1, 2, 1, 2, 0, 3},
        {3, 2, 1, 5, 1, 2, 3, 0, 1, 2, 0, 0, 9, 2, 0, 4},
        {3, 0, 1, 4, 1, 2, 6},
        {4, 0, 1, 1, 2, 3, 6, 3, 2, 2, 2, 2, 3},
        {4, 0, 1, 2, 1, 2, 2, 2, 3, 2, 3, 0, 2, 0, 2, 2},
        {4, 3, 0, 2, 0, 1, 3, 1, 2, 5, 2, 3, 7, 0, 2, 1, 3, 1, 4, 1, 3, 6},
        {5, 4, 2, 1, 2, 0, 2, 0, 4, 3, 1, 3, 2, 3, 2, 5, 2, 1, 9, 3, 3, 1},
        {5, 0, 1, 2, 1, 2, 3, 3, 4, 5, 2, 0, 7},
        {6, 0, 1, 1, 2, 1, 2, 2, 3, 3, 4, 3, 4, 4, 5, 5, 0, 5, 6, 3, 0, 7},
    };

    private static final int MOST_ELEMENTS = 1200;

    private final Check check;
    private final int[] told;
    private final int nodes;
    private final int arcs;
    private final int sets;

    private DefinitionsTest(Check check, int[] told) {
        this.check = check;
        this.told = told;
        nodes = told[0];
        arcs = (told.length - 1) / 3;
        sets = 1 << arcs;
    }

    /** What one sentence asks of one net. */
    private interface Question {
        void ask(DefinitionsTest net);
    }

    public static void main(String[] args) {
        Sentences sentences = new Sentences();
        ask(sentences, "each NODE can be reached from each other one by just one way without an ARC twice", DefinitionsTest::trees);
        ask(sentences, "THE COUNT is the sum of the PRODUCTS of all TREES.", DefinitionsTest::count);
        ask(sentences, "of these, and of those, those with ARC 1 first; and so on.", DefinitionsTest::order);
        ask(sentences, "A TREE TOWARDS a NODE: ARCS one way", DefinitionsTest::towards);
        ask(sentences, "FORESTS: sets of ARCS without rings", DefinitionsTest::forests);
        ask(sentences, "APART a, b: the sum of the PRODUCTS of the sets of ARCS that are two parts of the net's", DefinitionsTest::apart);
        ask(sentences, "RINGS: of each ARC that was not taken, by numbers", DefinitionsTest::rings);
        ask(sentences, "two of them are the same when one becomes the other by FIRING NODES", DefinitionsTest::group);
        ask(sentences, "s how many of them THE FIRST TREES of these ARCS alone have, r the same of all ARCS", DefinitionsTest::point);
        sentences.end();
    }

    private static void ask(Sentences sentences, String sentence, Question question) {
        sentences.ask(sentence, check -> {
            for (int[] told : NETS) {
                question.ask(new DefinitionsTest(check, told));
            }
        });
    }

    private TreeCounts build() {
        return Nets.of(nodes, Arrays.copyOfRange(told, 1, told.length));
    }

    private String name(String call) {
        return call + " of " + Arrays.toString(told);
    }

    private int from(int arc) {
        return told[1 + 3 * arc];
    }

    private int to(int arc) {
        return told[2 + 3 * arc];
    }

    private static boolean has(int set, int arc) {
        return (set >> arc & 1) == 1;
    }

    private long product(int set) {
        long product = 1;
        for (int arc = 0; arc < arcs; arc++) {
            product *= has(set, arc) ? told[3 + 3 * arc] : 1;
        }
        return product;
    }

    /** How many ways there are between two nodes that have no arc twice, by the arcs of a set. */
    private int ways(int set, int at, int goal, boolean oneWay) {
        int ways = at == goal ? 1 : 0;
        for (int arc = 0; arc < arcs; arc++) {
            int rest = set & ~(1 << arc);
            if (has(set, arc) && from(arc) == at) {
                ways += ways(rest, to(arc), goal, oneWay);
            } else if (has(set, arc) && to(arc) == at && !oneWay) {
                ways += ways(rest, from(arc), goal, false);
            }
        }
        return ways;
    }

    private boolean isTree(int set) {
        if (nodes < 2) {
            return nodes == 1 && set == 0;
        }
        for (int a = 0; a < nodes; a++) {
            for (int b = 0; b < nodes; b++) {
                if (a != b && ways(set, a, b, false) != 1) {
                    return false;
                }
            }
        }
        return true;
    }

    /** Whether no node has a way back to itself but the one without arcs. */
    private boolean isWithoutRings(int set) {
        for (int node = 0; node < nodes; node++) {
            if (ways(set, node, node, false) != 1) {
                return false;
            }
        }
        return true;
    }

    private List<Integer> allTrees() {
        List<Integer> trees = new ArrayList<>();
        for (int set = 0; set < sets; set++) {
            if (isTree(set)) {
                trees.add(set);
            }
        }
        return trees;
    }

    private void trees() {
        TreeCounts net = build();
        for (int set = 0; set < sets; set++) {
            check.holds(name("place(" + set + ")"), net.place(set) != -1 == isTree(set));
        }
        check.due(name("place() of an arc that is none"), net.place(sets), -1);
    }

    private void count() {
        long sum = 0;
        long[] with = new long[arcs];
        for (int tree : allTrees()) {
            sum += product(tree);
            for (int arc = 0; arc < arcs; arc++) {
                with[arc] += has(tree, arc) ? product(tree) : 0;
            }
        }
        check.due(name("trees()"), build().trees(), sum);
        for (int arc = 0; arc < arcs; arc++) {
            check.due(name("through(" + arc + ")"), build().through(arc), with[arc]);
        }
    }

    private void order() {
        List<Integer> trees = allTrees();
        trees.sort(this::compare);
        long place = 0;
        for (int tree : trees) {
            check.due(name("place(" + tree + ")"), build().place(tree), place);
            check.due(name("drawn(" + place + ")"), build().drawn(place), tree);
            place += product(tree);
            check.due(name("drawn(" + (place - 1) + ")"), build().drawn(place - 1), tree);
        }
        check.due(name("drawn(" + place + ")"), build().drawn(place), -1);
    }

    private int compare(int tree, int other) {
        for (int arc = 0; arc < arcs; arc++) {
            if (has(tree, arc) != has(other, arc)) {
                return has(tree, arc) ? -1 : 1;
            }
        }
        return 0;
    }

    private void towards() {
        for (int root = 0; root < nodes; root++) {
            long sum = 0;
            for (int set = 0; set < sets; set++) {
                sum += isTowards(set, root) ? product(set) : 0;
            }
            check.due(name("rooted(" + root + ")"), build().rooted(root), sum);
        }
        check.due(name("rooted(" + nodes + ")"), build().rooted(nodes), -1);
    }

    private boolean isTowards(int set, int root) {
        for (int arc = 0; arc < arcs; arc++) {
            if (has(set, arc) && from(arc) == root) {
                return false;
            }
        }
        for (int node = 0; node < nodes; node++) {
            if (node != root && ways(set, node, root, true) != 1) {
                return false;
            }
        }
        return true;
    }

    private void forests() {
        long sum = 0;
        for (int set = 0; set < sets; set++) {
            sum += isWithoutRings(set) ? product(set) * marks(set, 0, 0) : 0;
        }
        check.due(name("forests()"), build().forests(), sum);
    }

    /** In how many ways nodes from this one on can be marked, so that each part has one that is marked. */
    private int marks(int set, int node, int marked) {
        if (node == nodes) {
            return hasOneMarkInEachPart(set, marked) ? 1 : 0;
        }
        return marks(set, node + 1, marked) + marks(set, node + 1, marked | 1 << node);
    }

    private boolean hasOneMarkInEachPart(int set, int marked) {
        for (int node = 0; node < nodes; node++) {
            int marks = 0;
            for (int other = 0; other < nodes; other++) {
                marks += (marked >> other & 1) == 1 && ways(set, node, other, false) > 0 ? 1 : 0;
            }
            if (marks != 1) {
                return false;
            }
        }
        return true;
    }

    private void apart() {
        for (int a = 0; a < nodes; a++) {
            for (int b = 0; b < nodes; b++) {
                long sum = 0;
                for (int set = 0; set < sets; set++) {
                    sum += isApart(set, a, b) ? product(set) : 0;
                }
                check.due(name("apart(" + a + ", " + b + ")"), build().apart(a, b), sum);
            }
        }
    }

    private boolean isApart(int set, int a, int b) {
        if (!isWithoutRings(set) || ways(set, a, b, false) != 0) {
            return false;
        }
        for (int node = 0; node < nodes; node++) {
            if (ways(set, node, a, false) + ways(set, node, b, false) != 1) {
                return false;
            }
        }
        return true;
    }

    private int firstTrees(int set) {
        int taken = 0;
        for (int arc = 0; arc < arcs; arc++) {
            if (has(set, arc) && isWithoutRings(taken | 1 << arc)) {
                taken |= 1 << arc;
            }
        }
        return taken;
    }

    private void rings() {
        int taken = firstTrees(sets - 1);
        TreeCounts net = build();
        int ring = 0;
        for (int arc = 0; arc < arcs; arc++) {
            if (!has(taken, arc)) {
                int at = to(arc);
                int k = 0;
                check.due(name("ring(" + ring + ", 0)"), net.ring(ring, k++), arc);
                while (at != from(arc)) {
                    int next = next(taken, at, from(arc));
                    check.due(name("ring(" + ring + ", " + k + ")"), net.ring(ring, k++), next);
                    at = from(next) == at ? to(next) : from(next);
                }
                check.due(name("ring(" + ring + ", " + k + ")"), net.ring(ring, k), -1);
                ring++;
            }
        }
        check.due(name("told(3)"), net.told(3), ring);
    }

    /** The first arc of the one way from a node to another. */
    private int next(int taken, int at, int goal) {
        for (int arc = 0; arc < arcs; arc++) {
            int other = from(arc) == at ? to(arc) : from(arc);
            boolean ends = from(arc) == at || to(arc) == at;
            if (ends && has(taken, arc) && ways(taken & ~(1 << arc), other, goal, false) == 1) {
                return arc;
            }
        }
        throw new IllegalStateException("there is no way");
    }

    /** How many rows are the same as 0 when they are taken so many times: as many as rounds of d1, d2, .. say. */
    private void group() {
        TreeCounts net = build();
        long count = net.trees();
        if (count == 0 || count > MOST_ELEMENTS) {
            return;
        }
        long[][] steps = firingsInSteps();
        List<long[]> rows = new ArrayList<>();
        addRows(rows, steps, new long[nodes], 1);
        check.due(name("rows that are not the same"), rows.size(), count);
        int rounds = net.told(5);
        for (int times = 1; times <= count; times++) {
            long due = 1;
            for (int k = 0; k < rounds; k++) {
                due *= common(times, build().group(k));
            }
            long found = 0;
            for (long[] row : rows) {
                found += isZero(steps, row, times) ? 1 : 0;
            }
            check.due(name("rows that are 0 when taken " + times + " times"), due, found);
        }
    }

    /** What the nodes' firings change, added to each other till row k changes nothing before node k. */
    private long[][] firingsInSteps() {
        long[][] rows = new long[nodes][nodes];
        for (int arc = 0; arc < arcs; arc++) {
            int weight = told[3 + 3 * arc];
            rows[from(arc)][from(arc)] -= weight;
            rows[from(arc)][to(arc)] += weight;
            rows[to(arc)][to(arc)] -= weight;
            rows[to(arc)][from(arc)] += weight;
        }
        for (int node = 1; node < nodes; node++) {
            for (int other = 0; other < nodes; other++) {
                while (!isDone(other, node) && rows[other][node] != 0) {
                    long times = rows[node][node] / rows[other][node];
                    long[] rest = rows[node];
                    for (int column = 1; column < nodes; column++) {
                        rest[column] -= times * rows[other][column];
                    }
                    rows[node] = rows[other];
                    rows[other] = rest;
                }
            }
        }
        return rows;
    }

    /** The rows of the nodes before this one, but not that of node 0, which goes with all of them, are done. */
    private static boolean isDone(int other, int node) {
        return other >= 1 && other <= node;
    }

    private void addRows(List<long[]> rows, long[][] steps, long[] row, int node) {
        if (node >= nodes) {
            rows.add(row.clone());
            return;
        }
        for (long v = 0; v < Math.abs(steps[node][node]); v++) {
            row[node] = v;
            addRows(rows, steps, row, node + 1);
        }
    }

    private boolean isZero(long[][] steps, long[] row, int times) {
        long[] rest = new long[nodes];
        for (int node = 1; node < nodes; node++) {
            rest[node] += times * row[node];
            if (rest[node] % steps[node][node] != 0) {
                return false;
            }
            long back = rest[node] / steps[node][node];
            for (int column = node; column < nodes; column++) {
                rest[column] -= back * steps[node][column];
            }
        }
        return true;
    }

    private static long common(long a, long b) {
        return b == 0 ? a : common(b, a % b);
    }

    private void point() {
        if (arcs > 6) {
            return;
        }
        int r = Integer.bitCount(firstTrees(sets - 1));
        for (long x = -2; x <= 3; x++) {
            for (long y = -2; y <= 3; y++) {
                long sum = 0;
                for (int set = 0; set < sets; set++) {
                    int m = Integer.bitCount(set);
                    int s = Integer.bitCount(firstTrees(set));
                    sum += power(x - 1, r - s) * power(y - 1, m - s);
                }
                check.due(name("point(" + x + ", " + y + ")"), build().point(x, y), sum);
            }
        }
    }

    private static long power(long base, int exponent) {
        return exponent == 0 ? 1 : base * power(base, exponent - 1);
    }
}
