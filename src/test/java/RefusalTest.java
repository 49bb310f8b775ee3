import java.util.ArrayList;
import java.util.LinkedHashMap;
import java.util.List;
import java.util.Map;
import java.util.function.Supplier;

/**
 * Every call that the document refuses, on nets that are empty, full, whole and not: it answers what
 * is due, and all that can be asked behind it is as it would be without it.
 */
public final class RefusalTest {
    private static final int LEAST = Integer.MIN_VALUE;
    private static final int MOST = Integer.MAX_VALUE;
    /** What a call counts that throws IllegalStateException. */
    private static final long THROWN = -1000;

    private final Supplier<TreeCounts> builder;
    private final int nodes;
    private final int arcs;
    private final boolean whole;
    private final long trees;
    private final Map<String, Call> refused = new LinkedHashMap<>();
    private final Map<String, Long> dues = new LinkedHashMap<>();

    /** One call on a net. */
    private interface Call {
        long on(TreeCounts net);
    }

    private RefusalTest(Supplier<TreeCounts> builder) {
        this.builder = builder;
        TreeCounts net = builder.get();
        nodes = net.told(0);
        arcs = net.told(1);
        trees = net.trees();
        whole = trees > 0;
    }

    public static void main(String[] args) {
        Sentences sentences = new Sentences();
        Map<String, Supplier<TreeCounts>> nets = nets();
        for (String name : nets.keySet()) {
            String at = " .. on " + name;
            sentences.ask("Of several refusals a call answers the one named first; it changes nothing then" + at,
                check -> new RefusalTest(nets.get(name)).askRefused(check));
            sentences.ask("it is asked only; nothing changes" + at,
                check -> new RefusalTest(nets.get(name)).askAskers(check));
        }
        sentences.end();
    }

    private static Map<String, Supplier<TreeCounts>> nets() {
        Map<String, Supplier<TreeCounts>> nets = new LinkedHashMap<>();
        nets.put("a new object", TreeCounts::new);
        nets.put("one node", () -> withChips(Nets.of(1), 7));
        nets.put("one node with a loop", () -> withChips(Nets.of(1, 0, 0, 9), 7));
        nets.put("two nodes without arcs", () -> withChips(Nets.of(2), 200));
        nets.put("three nodes, whole", () -> withChips(Nets.of(3, 0, 1, 2, 1, 2, 3, 2, 0, 4, 1, 1, 9), 150));
        nets.put("three nodes, whole, with a tour", () -> withChips(Nets.of(3, 0, 1, 2, 1, 2, 2, 2, 0, 2), 3));
        nets.put("four nodes, whole before", RefusalTest::wholeBefore);
        nets.put("14 arcs", () -> withChips(manyArcs(14), 199));
        nets.put("15 arcs", () -> withChips(manyArcs(15), 200));
        nets.put("10 nodes and 30 arcs", () -> withChips(Nets.full(9), 200));
        nets.put("10 nodes and 30 arcs, not whole", () -> withChips(Nets.bundle(10, 30, 9), 200));
        nets.put("a cleared net", RefusalTest::cleared);
        return nets;
    }

    /** Chips on each node, and a settling where there can be one, so that there are firings to lose. */
    private static TreeCounts withChips(TreeCounts net, int most) {
        int nodes = net.told(0);
        for (int node = 0; node < nodes; node++) {
            net.chips(node, most - node);
        }
        net.settle(nodes - 1);
        return net;
    }

    private static TreeCounts manyArcs(int arcs) {
        TreeCounts net = Nets.of(6);
        for (int k = 0; k < arcs; k++) {
            net.arc(k % 6, (k + 1 + k / 6) % 6, 1 + k % 9);
        }
        return net;
    }

    private static TreeCounts wholeBefore() {
        TreeCounts net = withChips(Nets.of(3, 0, 1, 2, 1, 2, 3, 2, 0, 4), 100);
        net.node();
        net.chips(3, 5);
        return net;
    }

    private static TreeCounts cleared() {
        TreeCounts net = withChips(Nets.full(9), 200);
        net.clear();
        return net;
    }

    private void add(String name, long due, Call call) {
        refused.put(name, call);
        dues.put(name, due);
    }

    private static int[] outside(int count) {
        return new int[] {-1, count, count + 1, LEAST, MOST, LEAST + 1, MOST - 1, -2};
    }

    private void askRefused(Check check) {
        refuseChanges();
        refuseChips();
        refuseNodes();
        refuseSums();
        refuseOrders();
        refuseRows();
        List<String> want = State.of(builder.get());
        for (String name : refused.keySet()) {
            TreeCounts net = builder.get();
            check.due(name, refused.get(name).on(net), dues.get(name));
            // twice, since what is refused once is refused again
            check.due(name + " again", refused.get(name).on(net), dues.get(name));
            State.same(check, "behind " + name, net, want);
        }
    }

    private void refuseChanges() {
        int last = nodes - 1;
        if (nodes == 10) {
            add("node()", -1, net -> net.node());
        }
        for (int wrong : outside(nodes)) {
            add("arc(" + wrong + ", 0, 1)", -1, net -> net.arc(wrong, 0, 1));
            add("arc(0, " + wrong + ", 9)", -1, net -> net.arc(0, wrong, 9));
            add("arc(" + wrong + ", " + wrong + ", 1)", -1, net -> net.arc(wrong, wrong, 1));
        }
        for (int weight : new int[] {0, 10, -1, LEAST, MOST, 257, 65537, -9}) {
            add("arc(0, " + last + ", " + weight + ")", -1, net -> net.arc(0, last, weight));
            add("weigh(0, " + weight + ")", -1, net -> net.weigh(0, weight));
            add("weigh(" + (arcs - 1) + ", " + weight + ")", -1, net -> net.weigh(arcs - 1, weight));
        }
        if (arcs == 30) {
            add("arc(0, 0, 1)", -1, net -> net.arc(0, 0, 1));
            add("arc(" + last + ", 0, 9)", -1, net -> net.arc(last, 0, 9));
        }
        for (int wrong : outside(arcs)) {
            add("weigh(" + wrong + ", 1)", -1, net -> net.weigh(wrong, 1));
            add("weigh(" + wrong + ", 10)", -1, net -> net.weigh(wrong, 10));
        }
        if (arcs == 0) {
            add("drop()", 0, net -> net.drop() ? 1 : 0);
        }
    }

    private void refuseChips() {
        for (int wrong : outside(nodes)) {
            add("chips(" + wrong + ", 0)", -1, net -> net.chips(wrong, 0));
            add("chips(" + wrong + ", 200)", -1, net -> net.chips(wrong, 200));
            add("chips(" + wrong + ", 201)", -1, net -> net.chips(wrong, 201));
        }
        for (int v : new int[] {-1, 201, LEAST, MOST, 256, 65536, -200}) {
            for (int node = 0; node < nodes; node += Math.max(1, nodes - 1)) {
                int at = node;
                add("chips(" + at + ", " + v + ")", -1, net -> net.chips(at, v));
            }
        }
        for (int node = 0; node < nodes && !whole; node++) {
            int sink = node;
            add("settle(" + sink + ")", -1, net -> net.settle(sink));
            add("recurrent(" + sink + ")", -1, net -> net.recurrent(sink));
        }
    }

    private void refuseNodes() {
        for (int wrong : outside(nodes)) {
            add("rooted(" + wrong + ")", -1, net -> net.rooted(wrong));
            add("apart(" + wrong + ", 0)", 0, net -> net.apart(wrong, 0));
            add("apart(0, " + wrong + ")", 0, net -> net.apart(0, wrong));
            add("apart(" + wrong + ", " + wrong + ")", 0, net -> net.apart(wrong, wrong));
            for (int side = -1; side <= 2; side++) {
                int one = side;
                add("resistance(" + wrong + ", 0, " + one + ")", -1, net -> net.resistance(wrong, 0, one));
                add("resistance(0, " + wrong + ", " + one + ")", -1, net -> net.resistance(0, wrong, one));
                add("resistance(" + wrong + ", " + wrong + ", " + one + ")", -1, net -> net.resistance(wrong, wrong, one));
            }
            add("level(" + wrong + ")", -1, net -> net.level(wrong));
            add("fired(" + wrong + ")", 0, net -> net.fired(wrong));
            add("settle(" + wrong + ")", -1, net -> net.settle(wrong));
            add("recurrent(" + wrong + ")", -1, net -> net.recurrent(wrong));
        }
        for (int node = 0; node < nodes; node++) {
            int same = node;
            add("apart(" + same + ", " + same + ")", 0, net -> net.apart(same, same));
        }
    }

    private void refuseSums() {
        int last = nodes - 1;
        for (int side : outside(2)) {
            add("resistance(0, " + last + ", " + side + ")", -1, net -> net.resistance(0, last, side));
            add("resistance(0, 0, " + side + ")", -1, net -> net.resistance(0, 0, side));
        }
        if (!whole) {
            add("resistance(0, " + last + ", 0)", -1, net -> net.resistance(0, last, 0));
            add("resistance(0, " + last + ", 1)", -1, net -> net.resistance(0, last, 1));
            add("group(0)", -1, net -> net.group(0));
            add("drawn(0)", -1, net -> net.drawn(0));
        }
        for (int wrong : outside(arcs)) {
            add("through(" + wrong + ")", -1, net -> net.through(wrong));
        }
        if (arcs == 0) {
            add("tours()", 0, net -> net.tours());
        }
        if (arcs > 14) {
            add("point(1, 1)", THROWN, RefusalTest::pointAtOne);
        }
    }

    private static long pointAtOne(TreeCounts net) {
        return Nets.pointThrows(net, 1, 1) == 1 ? THROWN : 0;
    }

    private void refuseOrders() {
        long[] places = {-1, trees, trees + 1, Long.MIN_VALUE, Long.MAX_VALUE, trees + (1L << 32), -(1L << 32), trees - 1 + (1L << 62)};
        for (long place : places) {
            add("drawn(" + place + ")", -1, net -> net.drawn(place));
        }
        List<Integer> sets = new ArrayList<>(List.of(-1, LEAST, MOST, 1 << 30, 1 << arcs));
        if (nodes != 1) {
            sets.add(0);
        }
        for (int set : sets) {
            add("place(" + set + ")", -1, net -> net.place(set));
        }
        if (whole) {
            int tree = builder.get().drawn(0);
            add("place(a tree and bit 31)", -1, net -> net.place(tree | LEAST));
            add("place(a tree and bit 30)", -1, net -> net.place(tree | 1 << 30));
            add("place(a tree and the next arc's bit)", -1, net -> net.place(tree | 1 << arcs));
        }
    }

    private void refuseRows() {
        TreeCounts asked = builder.get();
        for (int ring : outside(asked.told(3))) {
            add("ring(" + ring + ", 0)", -1, net -> net.ring(ring, 0));
            add("ring(" + ring + ", " + ring + ")", -1, net -> net.ring(ring, ring));
        }
        for (int k : outside(asked.told(4))) {
            add("ring(0, " + k + ")", -1, net -> net.ring(0, k));
        }
        for (int k : outside(asked.told(5))) {
            add("group(" + k + ")", -1, net -> net.group(k));
        }
        for (int what : outside(6)) {
            add("told(" + what + ")", -1, net -> net.told(what));
        }
    }

    /** The calls that only ask, with arguments that are fine. */
    private void askAskers(Check check) {
        List<String> want = State.of(builder.get());
        TreeCounts net = builder.get();
        int last = nodes - 1;
        for (int what = 0; what <= 5; what++) {
            net.told(what);
        }
        net.trees();
        net.through(arcs - 1);
        net.rooted(last);
        net.forests();
        net.apart(0, last);
        net.resistance(0, last, 0);
        net.tours();
        net.place(net.drawn(trees - 1));
        net.ring(0, 1);
        net.group(0);
        net.level(last);
        net.fired(0);
        net.recurrent(last);
        net.recurrent(0);
        Nets.pointThrows(net, Long.MIN_VALUE, Long.MAX_VALUE);
        State.same(check, "behind the calls that only ask", net, want);
    }
}
