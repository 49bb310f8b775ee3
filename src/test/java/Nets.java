/** Nets that the tests begin with. */
final class Nets {
    private Nets() {
    }

    /** A net of so many nodes and of arcs told as from, to, weight, from, .. */
    static TreeCounts of(int nodes, int... arcs) {
        TreeCounts net = new TreeCounts();
        addNodes(net, nodes);
        for (int k = 0; k < arcs.length; k += 3) {
            addArc(net, k / 3, arcs[k], arcs[k + 1], arcs[k + 2]);
        }
        return net;
    }

    static void addNodes(TreeCounts net, int count) {
        for (int node = 0; node < count; node++) {
            if (net.node() != node) {
                throw new IllegalArgumentException("node() did not answer " + node);
            }
        }
    }

    private static void addArc(TreeCounts net, int arc, int from, int to, int weight) {
        if (net.arc(from, to, weight) != arc) {
            throw new IllegalArgumentException("arc() did not answer " + arc);
        }
    }

    /** An arc between each two nodes. */
    static TreeCounts allJoined(int nodes, int weight) {
        TreeCounts net = of(nodes);
        int arc = 0;
        for (int a = 0; a < nodes; a++) {
            for (int b = a + 1; b < nodes; b++) {
                addArc(net, arc++, a, b, weight);
            }
        }
        return net;
    }

    /** Arcs from each node to the next one. */
    static TreeCounts line(int nodes, int weight) {
        TreeCounts net = of(nodes);
        for (int k = 0; k + 1 < nodes; k++) {
            addArc(net, k, k, k + 1, weight);
        }
        return net;
    }

    /** Arcs from each node to the next one, and from the last one to node 0. */
    static TreeCounts round(int nodes, int weight) {
        TreeCounts net = of(nodes);
        for (int k = 0; k < nodes; k++) {
            addArc(net, k, k, (k + 1) % nodes, weight);
        }
        return net;
    }

    /** So many arcs from node 0 to the last node. */
    static TreeCounts bundle(int nodes, int arcs, int weight) {
        TreeCounts net = of(nodes);
        for (int k = 0; k < arcs; k++) {
            addArc(net, k, 0, nodes - 1, weight);
        }
        return net;
    }

    static TreeCounts petersen() {
        TreeCounts net = of(10);
        for (int k = 0; k < 5; k++) {
            addArc(net, 3 * k, k, (k + 1) % 5, 1);
            addArc(net, 3 * k + 1, k, k + 5, 1);
            addArc(net, 3 * k + 2, k + 5, (k + 2) % 5 + 5, 1);
        }
        return net;
    }

    /** Ten nodes, thirty arcs, six at each node: near the largest sums there are. */
    static TreeCounts full(int weight) {
        TreeCounts net = of(10);
        for (int k = 0; k < 30; k++) {
            int step = k < 10 ? 1 : k < 20 ? 3 : 4;
            addArc(net, k, k % 10, (k + step) % 10, weight);
        }
        return net;
    }

    /** 1 when point() throws the document's exception, 0 when it throws nothing. */
    static int pointThrows(TreeCounts net, long x, long y) {
        try {
            net.point(x, y);
        } catch (IllegalStateException e) {
            return e.getClass() == IllegalStateException.class ? 1 : 2;
        }
        return 0;
    }
}
