import java.util.ArrayList;
import java.util.List;

/**
 * The document word by word, by trying all sets of arcs: slow, and free of the theorems that
 * TreeCounts uses. Only for nets with few nodes and arcs.
 */
final class SlowNet {
    static final int NONE = -1;
    /** What tours() answers when there are too many arcs to try all tours. */
    static final long TOO_MANY = Long.MIN_VALUE;

    private int nodes = 0;
    private final List<int[]> arcs = new ArrayList<>();
    private long[] chips = new long[10];
    private long[] fired = new long[10];

    int node() {
        return nodes == 10 ? NONE : nodes++;
    }

    int arc(int from, int to, int weight) {
        if (!isNode(from) || !isNode(to) || weight < 1 || weight > 9 || arcs.size() == 30) {
            return NONE;
        }
        arcs.add(new int[] {from, to, weight});
        return arcs.size() - 1;
    }

    int weigh(int arc, int weight) {
        if (!isArc(arc) || weight < 1 || weight > 9) {
            return NONE;
        }
        int before = arcs.get(arc)[2];
        arcs.get(arc)[2] = weight;
        return before;
    }

    boolean drop() {
        if (arcs.isEmpty()) {
            return false;
        }
        arcs.remove(arcs.size() - 1);
        return true;
    }

    long trees() {
        long sum = 0;
        for (int set : allTrees()) {
            sum += product(set);
        }
        return sum;
    }

    long through(int arc) {
        if (!isArc(arc)) {
            return NONE;
        }
        long sum = 0;
        for (int set : allTrees()) {
            sum += has(set, arc) ? product(set) : 0;
        }
        return sum;
    }

    long rooted(int node) {
        if (!isNode(node)) {
            return NONE;
        }
        long sum = 0;
        for (int set = 0; set < 1 << arcs.size(); set++) {
            if (Integer.bitCount(set) == nodes - 1 && isTowards(set, node)) {
                sum += product(set);
            }
        }
        return sum;
    }

    long forests() {
        long sum = 0;
        for (int set = 0; set < 1 << arcs.size(); set++) {
            int[] part = parts(set);
            if (part == null) {
                continue;
            }
            long marks = 1;
            for (int p = 0; p < nodes; p++) {
                int size = 0;
                for (int node = 0; node < nodes; node++) {
                    size += part[node] == p ? 1 : 0;
                }
                marks *= size == 0 ? 1 : size;
            }
            sum += marks * product(set);
        }
        return sum;
    }

    long apart(int a, int b) {
        if (!isNode(a) || !isNode(b) || a == b) {
            return 0;
        }
        long sum = 0;
        for (int set = 0; set < 1 << arcs.size(); set++) {
            int[] part = Integer.bitCount(set) == nodes - 2 ? parts(set) : null;
            if (part != null && part[a] != part[b]) {
                sum += product(set);
            }
        }
        return sum;
    }

    long resistance(int a, int b, int side) {
        if (!isNode(a) || !isNode(b) || side < 0 || side > 1 || trees() == 0) {
            return NONE;
        }
        long top = apart(a, b);
        long bottom = trees();
        long shared = bottom;
        while (top % shared != 0 || bottom % shared != 0) {
            shared--;
        }
        return side == 0 ? top / shared : bottom / shared;
    }

    long tours() {
        List<int[]> copies = new ArrayList<>();
        for (int[] arc : arcs) {
            for (int k = 0; k < arc[2]; k++) {
                copies.add(arc);
            }
        }
        if (copies.size() > 9) {
            return TOO_MANY;
        }
        return copies.isEmpty() ? 0 : toursOn(copies, 1, copies.get(0)[1]);
    }

    /** Every round goes along the first copy just once, so it is told from there. */
    private long toursOn(List<int[]> copies, int used, int at) {
        if (used == (1 << copies.size()) - 1) {
            return at == copies.get(0)[0] ? 1 : 0;
        }
        long sum = 0;
        for (int k = 0; k < copies.size(); k++) {
            if (!has(used, k) && copies.get(k)[0] == at) {
                sum += toursOn(copies, used | 1 << k, copies.get(k)[1]);
            }
        }
        return sum;
    }

    int drawn(long place) {
        long rest = place;
        for (int tree : allTrees()) {
            if (rest >= 0 && rest < product(tree)) {
                return tree;
            }
            rest -= product(tree);
        }
        return NONE;
    }

    long place(int tree) {
        long before = 0;
        for (int other : allTrees()) {
            if (other == tree) {
                return before;
            }
            before += product(other);
        }
        return NONE;
    }

    int ring(int ring, int k) {
        List<List<Integer>> rings = rings();
        if (ring < 0 || ring >= rings.size() || k < 0 || k >= rings.get(ring).size()) {
            return NONE;
        }
        return rings.get(ring).get(k);
    }

    long group(int k) {
        List<Long> rounds = rounds();
        return k < 0 || k >= rounds.size() ? NONE : rounds.get(k);
    }

    long chips(int node, int v) {
        if (!isNode(node) || v < 0 || v > 200) {
            return NONE;
        }
        long before = chips[node];
        chips[node] = v;
        return before;
    }

    long level(int node) {
        return isNode(node) ? chips[node] : NONE;
    }

    long settle(int sink) {
        if (!isNode(sink) || !isWhole()) {
            return NONE;
        }
        fired = settled(chips, sink);
        long sum = 0;
        for (long f : fired) {
            sum += f;
        }
        return sum;
    }

    long fired(int node) {
        return isNode(node) ? fired[node] : 0;
    }

    int recurrent(int sink) {
        if (!isNode(sink) || !isWhole()) {
            return NONE;
        }
        long[] trial = chips.clone();
        for (int node = 0; node < nodes; node++) {
            if (node != sink && trial[node] >= degree(node)) {
                return 0;
            }
        }
        fireOnce(trial, sink);
        long[] counts = settled(trial, sink);
        for (int node = 0; node < nodes; node++) {
            if (node != sink && counts[node] != 1) {
                return 0;
            }
        }
        return 1;
    }

    long point(long x, long y) throws IllegalStateException {
        if (arcs.size() > 14) {
            throw new IllegalStateException();
        }
        int all = (1 << arcs.size()) - 1;
        int r = Integer.bitCount(firstTrees(all));
        long sum = 0;
        for (int set = 0; set <= all; set++) {
            int m = Integer.bitCount(set);
            int s = Integer.bitCount(firstTrees(set));
            sum += power(x - 1, r - s) * power(y - 1, m - s);
        }
        return sum;
    }

    int told(int what) {
        switch (what) {
            case 0: return nodes;
            case 1: return arcs.size();
            case 2: return nodes - Integer.bitCount(firstTrees((1 << arcs.size()) - 1));
            case 3: return rings().size();
            case 4: return rings().isEmpty() ? 0 : rings().get(0).size();
            case 5: return rounds().size();
            default: return NONE;
        }
    }

    void clear() {
        nodes = 0;
        arcs.clear();
        chips = new long[10];
        fired = new long[10];
    }

    /** The bits of the arcs' weights. */
    long product(int set) {
        long product = 1;
        for (int arc = 0; arc < arcs.size(); arc++) {
            product *= has(set, arc) ? arcs.get(arc)[2] : 1;
        }
        return product;
    }

    /** All trees in the order. */
    List<Integer> allTrees() {
        List<Integer> found = new ArrayList<>();
        for (int set = 0; set < 1 << arcs.size(); set++) {
            if (nodes > 0 && Integer.bitCount(set) == nodes - 1 && parts(set) != null) {
                found.add(set);
            }
        }
        // a tree with the lowest arc in which two differ stands first
        found.sort((a, b) -> Integer.compareUnsigned(Integer.reverse(b), Integer.reverse(a)));
        return found;
    }

    private boolean isNode(int node) {
        return node >= 0 && node < nodes;
    }

    /** By the first trees, since trying all sets of arcs would take too long for many arcs. */
    private boolean isWhole() {
        return told(2) == 1;
    }

    private boolean isArc(int arc) {
        return arc >= 0 && arc < arcs.size();
    }

    private static boolean has(int set, int arc) {
        return (set >> arc & 1) == 1;
    }

    private static long power(long base, int exponent) {
        long power = 1;
        for (int k = 0; k < exponent; k++) {
            power *= base;
        }
        return power;
    }

    /** The part of each node, or null when the set has a ring. */
    private int[] parts(int set) {
        int[] part = new int[nodes];
        for (int node = 0; node < nodes; node++) {
            part[node] = node;
        }
        for (int arc = 0; arc < arcs.size(); arc++) {
            if (has(set, arc)) {
                int a = part[arcs.get(arc)[0]];
                int b = part[arcs.get(arc)[1]];
                if (a == b) {
                    return null;
                }
                for (int node = 0; node < nodes; node++) {
                    part[node] = part[node] == b ? a : part[node];
                }
            }
        }
        return part;
    }

    private boolean isTowards(int set, int root) {
        for (int arc = 0; arc < arcs.size(); arc++) {
            if (has(set, arc) && arcs.get(arc)[0] == root) {
                return false;
            }
        }
        for (int node = 0; node < nodes; node++) {
            if (node != root && waysTo(set, node, root, nodes + 2) != 1) {
                return false;
            }
        }
        return true;
    }

    private long waysTo(int set, int node, int root, int steps) {
        if (node == root) {
            return 1;
        }
        long ways = 0;
        for (int arc = 0; arc < arcs.size() && steps > 0; arc++) {
            if (has(set, arc) && arcs.get(arc)[0] == node) {
                ways += waysTo(set, arcs.get(arc)[1], root, steps - 1);
            }
        }
        return ways;
    }

    private int firstTrees(int set) {
        int taken = 0;
        for (int arc = 0; arc < arcs.size(); arc++) {
            if (has(set, arc) && parts(taken | 1 << arc) != null) {
                taken |= 1 << arc;
            }
        }
        return taken;
    }

    private List<List<Integer>> rings() {
        int taken = firstTrees((1 << arcs.size()) - 1);
        List<List<Integer>> rings = new ArrayList<>();
        for (int arc = 0; arc < arcs.size(); arc++) {
            if (!has(taken, arc)) {
                List<Integer> ring = new ArrayList<>();
                ring.add(arc);
                walk(taken, arcs.get(arc)[1], arcs.get(arc)[0], ring);
                rings.add(ring);
            }
        }
        return rings;
    }

    private boolean walk(int taken, int at, int goal, List<Integer> ring) {
        if (at == goal) {
            return true;
        }
        for (int arc = 0; arc < arcs.size(); arc++) {
            int[] ends = arcs.get(arc);
            if (has(taken, arc) && !ring.contains(arc) && (ends[0] == at || ends[1] == at)) {
                ring.add(arc);
                if (walk(taken, ends[0] == at ? ends[1] : ends[0], goal, ring)) {
                    return true;
                }
                ring.remove(ring.size() - 1);
            }
        }
        return false;
    }

    /** By the common divisors of all minors of the net's square without node 0. */
    private List<Long> rounds() {
        List<Long> rounds = new ArrayList<>();
        if (trees() == 0) {
            return rounds;
        }
        long before = 1;
        for (int size = 1; size < nodes; size++) {
            long shared = 0;
            for (int rows = 0; rows < 1 << nodes; rows += 2) {
                for (int columns = 0; columns < 1 << nodes; columns += 2) {
                    if (Integer.bitCount(rows) == size && Integer.bitCount(columns) == size) {
                        shared = common(shared, Math.abs(minor(rows, columns)));
                    }
                }
            }
            if (shared / before > 1) {
                rounds.add(shared / before);
            }
            before = shared;
        }
        return rounds;
    }

    private static long common(long a, long b) {
        return b == 0 ? a : common(b, a % b);
    }

    private long minor(int rows, int columns) {
        if (rows == 0) {
            return 1;
        }
        int row = Integer.numberOfTrailingZeros(rows);
        long sum = 0;
        long sign = 1;
        for (int column = 0; column < nodes; column++) {
            if (has(columns, column)) {
                sum += sign * entry(row, column) * minor(rows & ~(1 << row), columns & ~(1 << column));
                sign = -sign;
            }
        }
        return sum;
    }

    private long entry(int row, int column) {
        if (row == column) {
            return degree(row);
        }
        long sum = 0;
        for (int[] arc : arcs) {
            if (arc[0] == row && arc[1] == column || arc[1] == row && arc[0] == column) {
                sum -= arc[2];
            }
        }
        return sum;
    }

    private long degree(int node) {
        long sum = 0;
        for (int[] arc : arcs) {
            if (arc[0] != arc[1] && (arc[0] == node || arc[1] == node)) {
                sum += arc[2];
            }
        }
        return sum;
    }

    private void fireOnce(long[] levels, int node) {
        for (int[] arc : arcs) {
            if (arc[0] != arc[1] && (arc[0] == node || arc[1] == node)) {
                levels[node] -= arc[2];
                levels[arc[0] == node ? arc[1] : arc[0]] += arc[2];
            }
        }
    }

    /** Settles the levels one firing at a time; how often each node fired. */
    private long[] settled(long[] levels, int sink) {
        long[] counts = new long[10];
        boolean moved = true;
        while (moved) {
            moved = false;
            for (int node = nodes - 1; node >= 0; node--) {
                if (node != sink && levels[node] >= degree(node)) {
                    fireOnce(levels, node);
                    counts[node]++;
                    moved = true;
                }
            }
        }
        return counts;
    }
}
