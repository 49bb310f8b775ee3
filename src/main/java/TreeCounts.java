/**
 * Spanning trees of a net with weights: counted, told one by one, and what goes with them (trees
 * towards a root, tours, rings, the group of the net, chips, and the polynomial of its sets of arcs).
 *
 * <p>All rows are made with the object and used again by every call, so that a run of many calls
 * makes no further ones.
 */
public final class TreeCounts {
    public static final int NONE = -1;

    private static final int MOST_NODES = 10;
    private static final int MOST_ARCS = 30;
    private static final int MOST_WEIGHT = 9;
    private static final int MOST_CHIPS = 200;
    private static final int MOST_POINT_ARCS = 14;

    private final Net net;
    private final Trees sums;
    private final Rings rings;
    private final Group rounds;
    private final Piles piles;
    private final Sets sets;

    public TreeCounts() {
        net = new Net();
        Parts parts = new Parts();
        Grid grid = new Grid();
        sums = new Trees(net, parts, grid);
        rings = new Rings(net, parts);
        rounds = new Group(net, sums, grid);
        piles = new Piles(net, grid);
        sets = new Sets(net, parts);
    }

    public int node() {
        if (net.nodes >= MOST_NODES) {
            return NONE;
        }
        return net.nodes++;
    }

    public int arc(int from, int to, int weight) {
        if (!net.hasNode(from) || !net.hasNode(to) || !isWeight(weight) || net.arcs >= MOST_ARCS) {
            return NONE;
        }
        net.from[net.arcs] = from;
        net.to[net.arcs] = to;
        net.weight[net.arcs] = weight;
        return net.arcs++;
    }

    public int weigh(int arc, int weight) {
        if (!net.hasArc(arc) || !isWeight(weight)) {
            return NONE;
        }
        int before = net.weight[arc];
        net.weight[arc] = weight;
        return before;
    }

    public boolean drop() {
        if (net.arcs == 0) {
            return false;
        }
        net.arcs--;
        return true;
    }

    public long trees() {
        return sums.sumOfAll();
    }

    public long through(int arc) {
        return net.hasArc(arc) ? sums.sumWith(arc) : NONE;
    }

    public long rooted(int node) {
        return net.hasNode(node) ? sums.sumTowards(node) : NONE;
    }

    public long forests() {
        return sums.sumOfMarked();
    }

    public long apart(int a, int b) {
        if (!net.hasNode(a) || !net.hasNode(b) || a == b) {
            return 0;
        }
        return sums.sumOfPairs(a, b);
    }

    public long resistance(int a, int b, int side) {
        if (!net.hasNode(a) || !net.hasNode(b) || side < 0 || side > 1) {
            return NONE;
        }
        long bottom = sums.sumOfAll();
        if (bottom == 0) {
            return NONE;
        }
        long top = apart(a, b);
        long shared = commonDivisor(top, bottom);
        if (shared == 0) {
            return NONE;
        }
        return (side == 0 ? top : bottom) / shared;
    }

    public long tours() {
        return sums.toursAlongAll();
    }

    public int drawn(long place) {
        return sums.treeAt(place);
    }

    public long place(int tree) {
        return sums.isTree(tree) ? sums.sumBefore(tree) : NONE;
    }

    public int ring(int ring, int k) {
        if (ring < 0 || k < 0) {
            return NONE;
        }
        rings.lay(ring);
        return k < rings.length ? rings.row[k] : NONE;
    }

    public long group(int k) {
        rounds.find();
        return k >= 0 && k < rounds.count ? rounds.round(k) : NONE;
    }

    public long chips(int node, int v) {
        if (!net.hasNode(node) || v < 0 || v > MOST_CHIPS) {
            return NONE;
        }
        long before = piles.held[node];
        piles.held[node] = v;
        return before;
    }

    public long level(int node) {
        return net.hasNode(node) ? piles.held[node] : NONE;
    }

    public long settle(int sink) {
        return net.hasNode(sink) && rings.partsOfNet() == 1 ? piles.settleAll(sink) : NONE;
    }

    public long fired(int node) {
        return net.hasNode(node) ? piles.firings[node] : 0;
    }

    public int recurrent(int sink) {
        if (!net.hasNode(sink) || rings.partsOfNet() != 1) {
            return NONE;
        }
        return piles.comeBack(sink) ? 1 : 0;
    }

    public long point(long x, long y) throws IllegalStateException {
        if (net.arcs > MOST_POINT_ARCS) {
            throw new IllegalStateException("more than 14 arcs");
        }
        return sets.sumAt(x, y);
    }

    public int told(int what) {
        switch (what) {
            case 0:
                return net.nodes;
            case 1:
                return net.arcs;
            case 2:
                return rings.partsOfNet();
            case 3:
                return rings.count();
            case 4:
                rings.lay(0);
                return rings.length;
            case 5:
                rounds.find();
                return rounds.count;
            default:
                return NONE;
        }
    }

    public void clear() {
        net.nodes = 0;
        net.arcs = 0;
        piles.empty();
    }

    private static boolean isWeight(int weight) {
        return weight >= 1 && weight <= MOST_WEIGHT;
    }

    /** The greatest common divisor of two numbers that are not below 0. */
    private static long commonDivisor(long a, long b) {
        // Euclid's remainders at least halve in two steps: 128 steps are enough for any two longs
        long divisor = a;
        long next = b;
        for (int step = 0; step < 128 && next != 0; step++) {
            long rest = divisor % next;
            divisor = next;
            next = rest;
        }
        return divisor;
    }

    /** The nodes and the arcs. */
    private static final class Net {
        int nodes;
        int arcs;
        final int[] from = new int[MOST_ARCS];
        final int[] to = new int[MOST_ARCS];
        final int[] weight = new int[MOST_ARCS];

        boolean hasNode(int node) {
            return node >= 0 && node < nodes;
        }

        boolean hasArc(int arc) {
            return arc >= 0 && arc < arcs;
        }

        int weightOutOf(int node) {
            int sum = 0;
            for (int arc = 0; arc < arcs; arc++) {
                sum += from[arc] == node ? weight[arc] : 0;
            }
            return sum;
        }

        int weightInto(int node) {
            int sum = 0;
            for (int arc = 0; arc < arcs; arc++) {
                sum += to[arc] == node ? weight[arc] : 0;
            }
            return sum;
        }

        /** The first trees as bits of arcs; the parts are then those of the net. */
        int firstTrees(Parts parts) {
            int taken = 0;
            parts.split(nodes);
            for (int arc = 0; arc < arcs; arc++) {
                if (parts.unite(from[arc], to[arc])) {
                    taken |= 1 << arc;
                }
            }
            return taken;
        }
    }

    /** Which nodes are in one part: the parts are numbered 0 to count - 1 without a gap. */
    private static final class Parts {
        int size;
        int count;
        final int[] part = new int[MOST_NODES];

        void split(int nodes) {
            size = nodes;
            count = nodes;
            for (int node = 0; node < nodes; node++) {
                part[node] = node;
            }
        }

        void become(Parts other) {
            size = other.size;
            count = other.count;
            System.arraycopy(other.part, 0, part, 0, other.size);
        }

        boolean areOne(int a, int b) {
            return part[a] == part[b];
        }

        /** Whether the two nodes were in two parts, which are one now. */
        boolean unite(int a, int b) {
            int low = Math.min(part[a], part[b]);
            int high = Math.max(part[a], part[b]);
            if (low == high) {
                return false;
            }
            for (int node = 0; node < size; node++) {
                if (part[node] == high) {
                    part[node] = low;
                } else if (part[node] > high) {
                    part[node]--;
                }
            }
            count--;
            return true;
        }
    }

    /**
     * A square of numbers modulo 2 to the power of 64. Every sum of products that the document asks
     * for is below 2 to the power of 63 (THE COUNT is at most 60^9 / 10, FORESTS at most 61^9), so
     * what wraps on the way does no harm.
     */
    private static final class Grid {
        int size;
        final long[][] cell = new long[MOST_NODES][MOST_NODES];

        void blank(int newSize) {
            size = newSize;
            for (int row = 0; row < size; row++) {
                for (int column = 0; column < size; column++) {
                    cell[row][column] = 0;
                }
            }
        }

        void addOneWay(int from, int to, int weight) {
            cell[from][from] += weight;
            cell[from][to] -= weight;
        }

        void addBothWays(int a, int b, int weight) {
            addOneWay(a, b, weight);
            addOneWay(b, a, weight);
        }

        /** The net both ways, its nodes as they are. */
        void fillBothWays(Net net) {
            blank(net.nodes);
            for (int arc = 0; arc < net.arcs; arc++) {
                addBothWays(net.from[arc], net.to[arc], net.weight[arc]);
            }
        }

        void fillOneWay(Net net) {
            blank(net.nodes);
            for (int arc = 0; arc < net.arcs; arc++) {
                addOneWay(net.from[arc], net.to[arc], net.weight[arc]);
            }
        }

        /** The determinant is then that without this row and column. */
        void strike(int line) {
            if (line >= size) {
                return;
            }
            for (int other = 0; other < size; other++) {
                cell[line][other] = 0;
                cell[other][line] = 0;
            }
            cell[line][line] = 1;
        }

        void swapRows(int a, int b) {
            long[] row = cell[a];
            cell[a] = cell[b];
            cell[b] = row;
        }

        /** The determinant modulo 2 to the power of 64; what the grid held is gone then. */
        long determinant() {
            long product = 1;
            for (int line = 0; line < size; line++) {
                int best = rowWithLowestBit(line);
                if (cell[best][line] == 0) {
                    return 0;
                }
                if (best != line) {
                    swapRows(best, line);
                    product = -product;
                }
                product *= cell[line][line];
                clearBelow(line);
            }
            return product;
        }

        /** Only an entry with no more factors 2 than the others divides them modulo a power of 2. */
        private int rowWithLowestBit(int line) {
            int best = line;
            int fewest = twos(cell[line][line]);
            for (int row = line + 1; row < size && fewest > 0; row++) {
                int here = twos(cell[row][line]);
                if (here < fewest) {
                    best = row;
                    fewest = here;
                }
            }
            return best;
        }

        private void clearBelow(int line) {
            int twos = twos(cell[line][line]);
            long inverse = inverseOfOdd(cell[line][line] >> twos);
            for (int row = line + 1; row < size; row++) {
                if (cell[row][line] != 0) {
                    long times = (cell[row][line] >> twos) * inverse;
                    for (int column = line; column < size; column++) {
                        cell[row][column] -= times * cell[line][column];
                    }
                }
            }
        }

        /** How often 2 divides a number; 64 for 0. */
        private static int twos(long number) {
            if (number == 0) {
                return 64;
            }
            int count = 0;
            while (count < 63 && ((number >> count) & 1) == 0) {
                count++;
            }
            return count;
        }

        private static long inverseOfOdd(long odd) {
            // an odd number is its own inverse in the last 3 bits; each step doubles the right bits
            long inverse = odd;
            for (int bits = 3; bits < 64; bits *= 2) {
                inverse *= 2 - odd * inverse;
            }
            return inverse;
        }
    }

    /** The sums of the products of trees and of what is like them, and the order of the trees. */
    private static final class Trees {
        private final Net net;
        private final Parts parts;
        private final Grid grid;
        // the trees that agree with what is chosen of the first arcs, and what the chosen ones give
        private long chosenSum;
        private long chosenProduct;

        Trees(Net net, Parts parts, Grid grid) {
            this.net = net;
            this.parts = parts;
            this.grid = grid;
        }

        long sumOfAll() {
            parts.split(net.nodes);
            return sumOverParts(0);
        }

        /** As if each part were one node, with the arcs from the first one named alone. */
        private long sumOverParts(int first) {
            if (parts.count == 0) {
                return 0;
            }
            grid.blank(parts.count);
            for (int arc = first; arc < net.arcs; arc++) {
                grid.addBothWays(parts.part[net.from[arc]], parts.part[net.to[arc]], net.weight[arc]);
            }
            grid.strike(0);
            return grid.determinant();
        }

        long sumWith(int arc) {
            parts.split(net.nodes);
            if (!parts.unite(net.from[arc], net.to[arc])) {
                return 0;
            }
            return net.weight[arc] * sumOverParts(0);
        }

        long sumTowards(int node) {
            grid.fillOneWay(net);
            grid.strike(node);
            return grid.determinant();
        }

        /** A marked node is one with an arc of weight 1 to a root outside the net. */
        long sumOfMarked() {
            grid.fillBothWays(net);
            for (int node = 0; node < net.nodes; node++) {
                grid.cell[node][node]++;
            }
            return grid.determinant();
        }

        long sumOfPairs(int a, int b) {
            grid.fillBothWays(net);
            grid.strike(a);
            grid.strike(b);
            return grid.determinant();
        }

        /**
         * Each tour leaves every node but the one it began at for the last time along the arcs of a
         * tree towards that one, and takes the other arcs out of each node in any order.
         */
        long toursAlongAll() {
            if (net.arcs == 0) {
                return 0;
            }
            grid.fillOneWay(net);
            long orders = 1;
            for (int node = 0; node < net.nodes; node++) {
                int out = net.weightOutOf(node);
                if (out != net.weightInto(node)) {
                    return 0;
                }
                if (out == 0) {
                    // no tour comes by here, so no tree need reach this node
                    grid.strike(node);
                }
                orders *= factorial(out - 1);
            }
            grid.strike(net.from[0]);
            return orders * grid.determinant();
        }

        private static long factorial(int number) {
            long product = 1;
            for (int factor = 2; factor <= number; factor++) {
                product *= factor;
            }
            return product;
        }

        /** The tree at a place of the row, as bits of arcs. */
        int treeAt(long place) {
            beginChoice();
            if (place < 0 || place >= chosenSum) {
                return NONE;
            }
            int tree = 0;
            long rest = place;
            for (int arc = 0; arc < net.arcs && parts.count > 1; arc++) {
                long with = sumIfTaken(arc);
                if (rest < with) {
                    tree |= 1 << arc;
                    take(arc, with);
                } else {
                    rest -= with;
                    chosenSum -= with;
                }
            }
            return tree;
        }

        /** The sum of the products of the trees that stand in the order before this one. */
        long sumBefore(int tree) {
            beginChoice();
            long before = 0;
            for (int arc = 0; arc < net.arcs && parts.count > 1; arc++) {
                long with = sumIfTaken(arc);
                if ((tree >> arc & 1) == 1) {
                    take(arc, with);
                } else {
                    before += with;
                    chosenSum -= with;
                }
            }
            return before;
        }

        private void beginChoice() {
            parts.split(net.nodes);
            chosenSum = sumOverParts(0);
            chosenProduct = 1;
        }

        /** Of the trees that agree with the choice so far, the sum of those with the next arc. */
        private long sumIfTaken(int arc) {
            if (parts.areOne(net.from[arc], net.to[arc])) {
                return 0;
            }
            return chosenSum - chosenProduct * sumOverParts(arc + 1);
        }

        private void take(int arc, long sum) {
            chosenSum = sum;
            chosenProduct *= net.weight[arc];
            parts.unite(net.from[arc], net.to[arc]);
        }

        boolean isTree(int tree) {
            if (tree < 0 || tree >> net.arcs != 0) {
                return false;
            }
            parts.split(net.nodes);
            for (int arc = 0; arc < net.arcs; arc++) {
                boolean inTree = (tree >> arc & 1) == 1;
                if (inTree && !parts.unite(net.from[arc], net.to[arc])) {
                    return false;
                }
            }
            return parts.count == 1;
        }
    }

    /** The first trees, and the rings that the other arcs make with them. */
    private static final class Rings {
        int length;
        final int[] row = new int[MOST_NODES];
        private final int[] back = new int[MOST_NODES];
        private final Net net;
        private final Parts parts;

        Rings(Net net, Parts parts) {
            this.net = net;
            this.parts = parts;
        }

        int partsOfNet() {
            net.firstTrees(parts);
            return parts.count;
        }

        int count() {
            return net.arcs - Integer.bitCount(net.firstTrees(parts));
        }

        /** Puts the arcs of a ring into the row; the length is 0 when there is no such ring. */
        void lay(int ring) {
            length = 0;
            int taken = net.firstTrees(parts);
            int closing = untaken(taken, ring);
            if (closing == NONE) {
                return;
            }
            row[length++] = closing;
            int beginning = net.from[closing];
            findWaysBack(taken, beginning);
            int at = net.to[closing];
            while (at != beginning && back[at] != NONE && length < row.length) {
                int arc = back[at];
                row[length++] = arc;
                at = net.from[arc] == at ? net.to[arc] : net.from[arc];
            }
        }

        private int untaken(int taken, int ring) {
            int passed = 0;
            for (int arc = 0; arc < net.arcs; arc++) {
                if ((taken >> arc & 1) == 0) {
                    if (passed == ring) {
                        return arc;
                    }
                    passed++;
                }
            }
            return NONE;
        }

        /** For each node the taken arc by which one comes nearer to the goal. */
        private void findWaysBack(int taken, int goal) {
            for (int node = 0; node < net.nodes; node++) {
                back[node] = NONE;
            }
            int reached = 1 << goal;
            for (int distance = 1; distance < net.nodes; distance++) {
                for (int arc = 0; arc < net.arcs; arc++) {
                    if ((taken >> arc & 1) == 1) {
                        reached = reach(arc, reached);
                    }
                }
            }
        }

        private int reach(int arc, int reached) {
            boolean beginning = (reached >> net.from[arc] & 1) == 1;
            boolean end = (reached >> net.to[arc] & 1) == 1;
            if (beginning == end) {
                return reached;
            }
            int fresh = beginning ? net.to[arc] : net.from[arc];
            back[fresh] = arc;
            return reached | 1 << fresh;
        }
    }

    /**
     * The rounds of the group of the net. THE COUNT times any row is 0 in the group, so the grid is
     * made a diagonal one modulo THE COUNT, where no number grows.
     */
    private static final class Group {
        int count;
        private final long[] rounds = new long[MOST_NODES];
        private final Net net;
        private final Trees sums;
        private final Grid grid;
        private long order;
        private long common;
        private long timesPivot;
        private long timesOther;

        Group(Net net, Trees sums, Grid grid) {
            this.net = net;
            this.sums = sums;
            this.grid = grid;
        }

        /** d(k + 1), for k from 0 to count - 1. */
        long round(int k) {
            return rounds[net.nodes - count + k];
        }

        void find() {
            count = 0;
            order = sums.sumOfAll();
            if (order < 2) {
                return;
            }
            grid.fillBothWays(net);
            grid.strike(0);
            reduceAll();
            for (int line = 0; line < grid.size; line++) {
                clearLine(line);
                rounds[line] = commonDivisor(grid.cell[line][line], order);
            }
            makeChain();
            for (int line = 0; line < grid.size; line++) {
                count += rounds[line] > 1 ? 1 : 0;
            }
        }

        private void reduceAll() {
            for (int row = 0; row < grid.size; row++) {
                for (int column = 0; column < grid.size; column++) {
                    grid.cell[row][column] = reduced(grid.cell[row][column]);
                }
            }
        }

        private long reduced(long number) {
            if (order < 1) {
                return 0;
            }
            long rest = number % order;
            return rest < 0 ? rest + order : rest;
        }

        /** Leaves nothing but the pivot in its row and in its column. */
        private void clearLine(int line) {
            // each turn that leaves something has made the pivot a true divisor of what it was
            for (int turn = 0; turn < 128; turn++) {
                for (int row = line + 1; row < grid.size; row++) {
                    if (grid.cell[row][line] != 0) {
                        mixRows(line, row);
                    }
                }
                if (isRowClear(line)) {
                    return;
                }
                transpose(line);
            }
        }

        private boolean isRowClear(int line) {
            for (int column = line + 1; column < grid.size; column++) {
                if (grid.cell[line][column] != 0) {
                    return false;
                }
            }
            return true;
        }

        private void transpose(int first) {
            for (int row = first; row < grid.size; row++) {
                for (int column = row + 1; column < grid.size; column++) {
                    long held = grid.cell[row][column];
                    grid.cell[row][column] = grid.cell[column][row];
                    grid.cell[column][row] = held;
                }
            }
        }

        /** Makes the pivot the common divisor of itself and the entry below it, and that one 0. */
        private void mixRows(int line, int row) {
            long pivot = grid.cell[line][line];
            long other = grid.cell[row][line];
            measure(pivot, other);
            if (common == 0) {
                return;
            }
            long share = pivot / common;
            long otherShare = other / common;
            for (int column = line; column < grid.size; column++) {
                long upper = grid.cell[line][column];
                long lower = grid.cell[row][column];
                grid.cell[line][column] = reduced(times(timesPivot, upper) + times(timesOther, lower));
                grid.cell[row][column] = reduced(times(share, lower) - times(otherShare, upper));
            }
        }

        /**
         * The common divisor as a sum of the pivot and the other one, both taken so many times. A
         * pivot that divides the other one is taken just once: its row stays as it is then.
         */
        private void measure(long pivot, long other) {
            long divisor = pivot;
            long otherTimes = 0;
            long pivotTimes = 1;
            common = other;
            timesOther = 1;
            timesPivot = 0;
            for (int step = 0; step < 128 && divisor != 0; step++) {
                long quotient = common / divisor;
                long rest = common - quotient * divisor;
                long otherRest = timesOther - quotient * otherTimes;
                long pivotRest = timesPivot - quotient * pivotTimes;
                common = divisor;
                timesOther = otherTimes;
                timesPivot = pivotTimes;
                divisor = rest;
                otherTimes = otherRest;
                pivotTimes = pivotRest;
            }
            timesPivot = reduced(timesPivot);
            timesOther = reduced(timesOther);
        }

        /** The product of two reduced numbers, reduced. */
        private long times(long a, long b) {
            // the order is below 2^50: 12 bits of one factor at a time stay below 2^63
            long product = 0;
            for (int shift = 48; shift >= 0; shift -= 12) {
                product = reduced(product * 4096 + a * (b >> shift & 4095));
            }
            return product;
        }

        /** Rounds of a and of b are as good as rounds of their common divisor and multiple. */
        private void makeChain() {
            for (int low = 0; low < grid.size; low++) {
                for (int high = low + 1; high < grid.size; high++) {
                    long shared = commonDivisor(rounds[low], rounds[high]);
                    if (shared > 0) {
                        rounds[high] = rounds[low] / shared * rounds[high];
                        rounds[low] = shared;
                    }
                }
            }
        }
    }

    /** The chips of the nodes, and how often each node fired. */
    private static final class Piles {
        /*
         * Far above need. Let a chip weigh the mean steps of a walk by chance from its node to the
         * sink, 1 to 9 * 540: a node of c chips that fires all it can takes off more than c / 2. While
         * 1,080 chips or more are off the sink, half of them are on nodes that fire, so each sweep
         * takes off 1 / 19,440 of all: from the 102,400 chips that 512 calls can bring, that is over
         * within 254,000 sweeps. Fewer chips let nodes fire at most 9 * 9 * 1,080 times.
         */
        private static final int MOST_SWEEPS = 1_000_000;

        final long[] held = new long[MOST_NODES];
        final long[] firings = new long[MOST_NODES];
        private final long[] trialHeld = new long[MOST_NODES];
        private final long[] trialFirings = new long[MOST_NODES];
        private final Net net;
        private final Grid grid;

        Piles(Net net, Grid grid) {
            this.net = net;
            this.grid = grid;
        }

        void empty() {
            for (int node = 0; node < MOST_NODES; node++) {
                held[node] = 0;
                firings[node] = 0;
            }
        }

        /** How often nodes fired. */
        long settleAll(int sink) {
            grid.fillBothWays(net);
            run(held, firings, sink);
            long sum = 0;
            for (int node = 0; node < net.nodes; node++) {
                sum += firings[node];
            }
            return sum;
        }

        /** Whether the chips are recurrent; they are tried on rows of their own. */
        boolean comeBack(int sink) {
            grid.fillBothWays(net);
            for (int node = 0; node < net.nodes; node++) {
                if (node != sink && held[node] >= grid.cell[node][node]) {
                    return false;
                }
                trialHeld[node] = held[node];
            }
            fire(trialHeld, sink, 1);
            run(trialHeld, trialFirings, sink);
            for (int node = 0; node < net.nodes; node++) {
                if (node != sink && trialFirings[node] != 1) {
                    return false;
                }
            }
            return true;
        }

        /** Settles chips; the order of the firings is free, so a node fires all it can at once. */
        private void run(long[] chips, long[] counts, int sink) {
            for (int node = 0; node < MOST_NODES; node++) {
                counts[node] = 0;
            }
            boolean moved = true;
            for (int sweep = 0; sweep < MOST_SWEEPS && moved; sweep++) {
                moved = false;
                for (int node = 0; node < net.nodes; node++) {
                    long degree = grid.cell[node][node];
                    if (node != sink && degree > 0 && chips[node] >= degree) {
                        long times = chips[node] / degree;
                        fire(chips, node, times);
                        counts[node] += times;
                        moved = true;
                    }
                }
            }
        }

        private void fire(long[] chips, int node, long times) {
            for (int other = 0; other < net.nodes; other++) {
                chips[other] -= times * grid.cell[node][other];
            }
        }
    }

    /** The polynomial of the sets of arcs at a point. */
    private static final class Sets {
        private final Net net;
        private final Parts parts;
        private final Parts[] joined = new Parts[MOST_NODES];
        private final long[] lifts = new long[MOST_NODES + 1];
        private final long[] turns = new long[MOST_POINT_ARCS + 1];
        private int fewestParts;

        Sets(Net net, Parts parts) {
            this.net = net;
            this.parts = parts;
            for (int joins = 0; joins < MOST_NODES; joins++) {
                joined[joins] = new Parts();
            }
        }

        long sumAt(long x, long y) {
            fillPowers(lifts, x - 1);
            fillPowers(turns, y);
            net.firstTrees(parts);
            fewestParts = parts.count;
            joined[0].split(net.nodes);
            return sumFrom(this, 0, 0);
        }

        private static void fillPowers(long[] powers, long base) {
            long power = 1;
            for (int k = 0; k < powers.length; k++) {
                powers[k] = power;
                power *= base;
            }
        }

        /**
         * The sum over all sets of the arcs from this one on, behind arcs taken before that have made
         * so many joins. An arc inside a part, in the set or not, gives 1 + (y - 1), which is y.
         */
        private static long sumFrom(Sets sets, int arc, int joins) {
            Net net = sets.net;
            Parts here = sets.joined[joins];
            int open = here.count - sets.fewestParts;
            if (open == 0) {
                return sets.turns[net.arcs - arc];
            }
            if (arc >= net.arcs) {
                return sets.lifts[open];
            }
            int from = net.from[arc];
            int to = net.to[arc];
            if (here.areOne(from, to)) {
                return sets.turns[1] * sumFrom(sets, arc + 1, joins);
            }
            long without = sumFrom(sets, arc + 1, joins);
            Parts next = sets.joined[joins + 1];
            next.become(here);
            next.unite(from, to);
            return without + sumFrom(sets, arc + 1, joins + 1);
        }
    }
}
