/**
 * Every net of up to 3 nodes and 3 arcs of weight 1 or 2, loops too, with every call and all its
 * arguments from one too small to one too large, held against SlowNet.
 */
public final class SmallNetsTest {
    private final Check check;
    private final TreeCounts fast = new TreeCounts();
    private final SlowNet slow = new SlowNet();
    private final StringBuilder name = new StringBuilder();
    private final int nodes;
    private final int arcs;

    private SmallNetsTest(Check check, int nodes, int arcs, int code) {
        this.check = check;
        this.nodes = nodes;
        this.arcs = arcs;
        name.append(nodes).append(" nodes");
        for (int node = 0; node < nodes; node++) {
            due("node()", fast.node(), slow.node());
        }
        int rest = code;
        for (int k = 0; k < arcs; k++) {
            int from = rest % nodes;
            int to = rest / nodes % nodes;
            int weight = 1 + rest / nodes / nodes % 2;
            rest /= 2 * nodes * nodes;
            name.append(", ").append(from).append('-').append(to).append(" by ").append(weight);
            due("arc()", fast.arc(from, to, weight), slow.arc(from, to, weight));
        }
    }

    public static void main(String[] args) {
        Check check = new Check();
        for (int nodes = 0; nodes <= 3; nodes++) {
            int codes = 1;
            for (int arcs = 0; arcs <= 3; arcs++) {
                for (int code = 0; code < codes && check.isClean(); code++) {
                    SmallNetsTest net = new SmallNetsTest(check, nodes, arcs, code);
                    net.askSums();
                    net.askPairs();
                    net.askOrders();
                    net.askChips(code);
                    net.askRest();
                }
                codes *= 2 * nodes * nodes;
            }
        }
        check.end();
    }

    private void due(String call, long got, long want) {
        if (got != want) {
            check.due(name + ": " + call, got, want);
        } else {
            check.due(call, got, want);
        }
    }

    private void askSums() {
        due("trees()", fast.trees(), slow.trees());
        due("forests()", fast.forests(), slow.forests());
        due("tours()", fast.tours(), slow.tours());
        for (int arc = -1; arc <= arcs; arc++) {
            due("through(" + arc + ")", fast.through(arc), slow.through(arc));
        }
        for (int node = -1; node <= nodes; node++) {
            due("rooted(" + node + ")", fast.rooted(node), slow.rooted(node));
        }
        for (int what = -1; what <= 6; what++) {
            due("told(" + what + ")", fast.told(what), slow.told(what));
        }
    }

    private void askPairs() {
        for (int a = -1; a <= nodes; a++) {
            for (int b = -1; b <= nodes; b++) {
                due("apart(" + a + ", " + b + ")", fast.apart(a, b), slow.apart(a, b));
                for (int side = -1; side <= 2; side++) {
                    due("resistance(" + a + ", " + b + ", " + side + ")", fast.resistance(a, b, side), slow.resistance(a, b, side));
                }
            }
        }
    }

    private void askOrders() {
        for (int place = -1; place <= slow.trees() + 1; place++) {
            due("drawn(" + place + ")", fast.drawn(place), slow.drawn(place));
        }
        for (int set = -1; set <= 1 << arcs; set++) {
            due("place(" + set + ")", fast.place(set), slow.place(set));
        }
        for (int ring = -1; ring <= slow.told(3); ring++) {
            for (int k = -1; k <= 3; k++) {
                due("ring(" + ring + ", " + k + ")", fast.ring(ring, k), slow.ring(ring, k));
            }
        }
        for (int k = -1; k <= slow.told(5); k++) {
            due("group(" + k + ")", fast.group(k), slow.group(k));
        }
    }

    private void askChips(int code) {
        int rest = code;
        for (int node = -1; node <= nodes; node++) {
            int v = rest % 6;
            rest /= 6;
            due("chips(" + node + ", " + v + ")", fast.chips(node, v), slow.chips(node, v));
        }
        for (int sink = -1; sink <= nodes; sink++) {
            for (int other = -1; other <= nodes; other++) {
                due("recurrent(" + other + ")", fast.recurrent(other), slow.recurrent(other));
            }
            due("settle(" + sink + ")", fast.settle(sink), slow.settle(sink));
            for (int node = -1; node <= nodes; node++) {
                due("level(" + node + ")", fast.level(node), slow.level(node));
                due("fired(" + node + ")", fast.fired(node), slow.fired(node));
            }
        }
    }

    private void askRest() {
        for (int x = -1; x <= 2; x++) {
            for (int y = -1; y <= 2; y++) {
                due("point(" + x + ", " + y + ")", fast.point(x, y), slow.point(x, y));
            }
        }
        for (int arc = -1; arc <= arcs; arc++) {
            for (int weight : new int[] {0, 9, 10, 1}) {
                due("weigh(" + arc + ", " + weight + ")", fast.weigh(arc, weight), slow.weigh(arc, weight));
            }
        }
        for (int arc = 0; arc <= arcs; arc++) {
            due("drop()", fast.drop() ? 1 : 0, slow.drop() ? 1 : 0);
            due("trees()", fast.trees(), slow.trees());
        }
    }
}
