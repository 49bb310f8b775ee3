import java.math.BigInteger;

/** The boundaries that promises 6 to 12 name: the sums over trees, resistances and tours. */
public final class SumSentencesTest {
    private static final int LEAST = Integer.MIN_VALUE;
    private static final int MOST = Integer.MAX_VALUE;

    public static void main(String[] args) {
        Sentences sentences = new Sentences();
        sentences.ask("6: THE COUNT", SumSentencesTest::counts);
        sentences.ask("6: 0 without NODES", SumSentencesTest::countWithoutNodes);
        sentences.ask("7: The sum of the PRODUCTS of the TREES with an ARC", SumSentencesTest::throughArc);
        sentences.ask("7: NONE when there is no such ARC", SumSentencesTest::throughNoArc);
        sentences.ask("8: The sum of the PRODUCTS of the TREES TOWARDS a NODE", SumSentencesTest::rootedAt);
        sentences.ask("8: NONE when there is no such one", SumSentencesTest::rootedNowhere);
        sentences.ask("9: FORESTS", SumSentencesTest::forests);
        sentences.ask("9: 1 without NODES", SumSentencesTest::forestsWithoutNodes);
        sentences.ask("10: 0 when both are the same", SumSentencesTest::apartFromItself);
        sentences.ask("10: or there is no such NODE", SumSentencesTest::apartNoNode);
        sentences.ask("11: its top (side = 0), its bottom (1)", SumSentencesTest::sides);
        sentences.ask("11: (of one NODE twice 0 and 1)", SumSentencesTest::oneNodeTwice);
        sentences.ask("11: NONE when there is no such NODE", SumSentencesTest::resistanceNoNode);
        sentences.ask("11: or side", SumSentencesTest::resistanceNoSide);
        sentences.ask("11: or the net is not WHOLE", SumSentencesTest::resistanceNotWhole);
        sentences.ask("12: How many TOURS there are (wrapping)", SumSentencesTest::toursWrap);
        sentences.ask("12: 0 without ARCS", SumSentencesTest::toursWithoutArcs);
        sentences.end();
    }

    private static void counts(Check check) {
        check.due("one node", Nets.of(1).trees(), 1);
        check.due("two nodes", Nets.of(2).trees(), 0);
        check.due("ten nodes", Nets.of(10).trees(), 0);
        check.due("ten nodes on a line, by 9", Nets.line(10, 9).trees(), 387420489);
        check.due("ten nodes on a round, by 9", Nets.round(10, 9).trees(), 3874204890L);
        check.due("eight nodes all joined, by 9", Nets.allJoined(8, 9).trees(), 262144L * 4782969L);
        check.due("thirty arcs side by side", Nets.bundle(2, 30, 9).trees(), 270);
        check.due("thirty arcs and nodes aside", Nets.bundle(10, 30, 9).trees(), 0);
        // each arc by 9 is nine times one by 1 in each of the nine arcs of a tree
        check.due("a full net by 9", Nets.full(9).trees(), 387420489L * Nets.full(1).trees());
        check.due("a full net by 8", Nets.full(8).trees(), 134217728L * Nets.full(1).trees());
        TreeCounts net = Nets.line(3, 4);
        net.node();
        check.due("a node aside", net.trees(), 0);
    }

    private static void countWithoutNodes(Check check) {
        check.due("a new object", new TreeCounts().trees(), 0);
        TreeCounts net = Nets.full(9);
        net.clear();
        check.due("behind clear()", net.trees(), 0);
        net.node();
        check.due("with a node again", net.trees(), 1);
    }

    private static void throughArc(Check check) {
        for (TreeCounts net : new TreeCounts[] {Nets.full(9), Nets.petersen(), Nets.allJoined(8, 9), Nets.bundle(2, 30, 7), Nets.line(10, 3)}) {
            BigInteger all = BigInteger.ZERO;
            int arcs = net.told(1);
            for (int arc = 0; arc < arcs; arc++) {
                all = all.add(BigInteger.valueOf(net.through(arc)));
            }
            // each tree is counted once for each of its arcs
            BigInteger each = BigInteger.valueOf(net.trees()).multiply(BigInteger.valueOf(net.told(0) - 1));
            check.holds("the sum over all arcs is " + each + ", and was " + all, all.equals(each));
        }
        check.due("a loop", Nets.of(2, 0, 1, 7, 1, 1, 9).through(1), 0);
        check.due("a bridge", Nets.of(2, 0, 1, 7, 1, 1, 9).through(0), 7);
        check.due("arcs side by side, 0", Nets.of(2, 0, 1, 7, 1, 0, 9).through(0), 7);
        check.due("arcs side by side, 1", Nets.of(2, 0, 1, 7, 1, 0, 9).through(1), 9);
        check.due("not whole", Nets.of(3, 0, 1, 7).through(0), 0);
        check.due("arc 29", Nets.bundle(2, 30, 7).through(29), 7);
        check.due("a loop of one node", Nets.of(1, 0, 0, 7).through(0), 0);
    }

    private static void throughNoArc(Check check) {
        for (int arcs = 0; arcs <= 30; arcs += 5) {
            TreeCounts net = Nets.bundle(2, arcs, 7);
            for (int arc : new int[] {-1, arcs, arcs + 1, 30, 31, 32, LEAST, MOST, -30, 256, 1 << 16}) {
                check.due("through(" + arc + ") of " + arcs, net.through(arc), -1);
            }
            if (arcs > 0) {
                check.due("through(0)", net.through(0), 7);
                check.due("through(last)", net.through(arcs - 1), 7);
                net.drop();
                check.due("through(the dropped one)", net.through(arcs - 1), -1);
            }
        }
        check.due("through(0) without nodes", new TreeCounts().through(0), -1);
    }

    private static void rootedAt(Check check) {
        check.due("one node", Nets.of(1).rooted(0), 1);
        check.due("one node with a loop", Nets.of(1, 0, 0, 9).rooted(0), 1);
        check.due("two nodes", Nets.of(2).rooted(0), 0);
        check.due("ten nodes on a line, the end", Nets.line(10, 9).rooted(9), 387420489);
        check.due("ten nodes on a line, the beginning", Nets.line(10, 9).rooted(0), 0);
        check.due("ten nodes on a line, before the end", Nets.line(10, 9).rooted(8), 0);
        for (int node = 0; node < 10; node++) {
            check.due("ten nodes on a round, towards " + node, Nets.round(10, 9).rooted(node), 387420489);
        }
        TreeCounts bundle = Nets.bundle(2, 30, 9);
        check.due("thirty arcs, along", bundle.rooted(1), 270);
        check.due("thirty arcs, against", bundle.rooted(0), 0);
        check.due("a node aside", Nets.of(3, 0, 1, 5).rooted(1), 0);
    }

    private static void rootedNowhere(Check check) {
        for (int nodes = 0; nodes <= 10; nodes++) {
            TreeCounts net = Nets.line(nodes, 1);
            for (int node : new int[] {-1, nodes, nodes + 1, 10, 11, LEAST, MOST, -10, 256, 1 << 16}) {
                check.due("rooted(" + node + ") of " + nodes, net.rooted(node), -1);
            }
            if (nodes > 0) {
                check.due("rooted(last) of " + nodes, net.rooted(nodes - 1), 1);
                check.due("rooted(0) of " + nodes, net.rooted(0), nodes == 1 ? 1 : 0);
            }
        }
    }

    private static void forests(Check check) {
        check.due("one node", Nets.of(1).forests(), 1);
        check.due("one node with a loop", Nets.of(1, 0, 0, 9).forests(), 1);
        check.due("ten nodes", Nets.of(10).forests(), 1);
        // the trees of the nodes and one more, joined to each of them
        check.due("four nodes all joined", Nets.allJoined(4, 1).forests(), 125);
        check.due("eight nodes all joined", Nets.allJoined(8, 1).forests(), 4782969);
        check.due("a bundle", Nets.bundle(2, 30, 9).forests(), 541);
        check.due("two parts", Nets.of(4, 0, 1, 9, 2, 3, 9).forests(), 19 * 19);
        check.due("ten nodes in pairs, by 9", Nets.of(10, 0, 1, 9, 2, 3, 9, 4, 5, 9, 6, 7, 9, 8, 9, 9).forests(), 2476099);
        check.due("a line of ten", Nets.line(10, 1).forests(), 6765);
    }

    private static void forestsWithoutNodes(Check check) {
        check.due("a new object", new TreeCounts().forests(), 1);
        TreeCounts net = Nets.full(9);
        net.clear();
        check.due("behind clear()", net.forests(), 1);
    }

    private static void apartFromItself(Check check) {
        for (TreeCounts net : new TreeCounts[] {Nets.of(1), Nets.of(2), Nets.of(1, 0, 0, 9), Nets.line(10, 9), Nets.full(9), Nets.of(4, 0, 1, 1, 2, 3, 1)}) {
            int nodes = net.told(0);
            for (int node = 0; node < nodes; node++) {
                check.due("apart(" + node + ", " + node + ")", net.apart(node, node), 0);
            }
        }
    }

    private static void apartNoNode(Check check) {
        for (int nodes = 0; nodes <= 10; nodes++) {
            TreeCounts net = Nets.line(nodes, 1);
            for (int node : new int[] {-1, nodes, nodes + 1, 10, 11, LEAST, MOST, -10, 256, 1 << 16}) {
                check.due("apart(" + node + ", 0) of " + nodes, net.apart(node, 0), 0);
                check.due("apart(0, " + node + ") of " + nodes, net.apart(0, node), 0);
                check.due("apart(" + node + ", " + node + ") of " + nodes, net.apart(node, node), 0);
                check.due("apart(" + node + ", least) of " + nodes, net.apart(node, LEAST), 0);
            }
            if (nodes > 1) {
                check.due("apart(0, last) of " + nodes, net.apart(0, nodes - 1), nodes - 1);
                check.due("apart(last, 0) of " + nodes, net.apart(nodes - 1, 0), nodes - 1);
            }
        }
    }

    private static void sides(Check check) {
        TreeCounts net = Nets.of(3, 0, 1, 2, 1, 2, 3, 2, 0, 4);
        check.due("top", net.resistance(0, 1, 0), 7);
        check.due("bottom", net.resistance(0, 1, 1), 26);
        check.due("top, brought down", net.resistance(1, 2, 0), 3);
        check.due("bottom, brought down", net.resistance(1, 2, 1), 13);
        check.due("top, the other way", net.resistance(2, 1, 0), 3);
        check.due("bottom, the other way", net.resistance(2, 1, 1), 13);
        check.due("top, of ten", Nets.line(10, 2).resistance(9, 0, 0), 9);
        check.due("bottom, of ten", Nets.line(10, 2).resistance(9, 0, 1), 2);
    }

    private static void oneNodeTwice(Check check) {
        for (TreeCounts net : new TreeCounts[] {Nets.of(1), Nets.of(1, 0, 0, 9), Nets.line(10, 9), Nets.full(9), Nets.bundle(2, 30, 9)}) {
            int nodes = net.told(0);
            for (int node = 0; node < nodes; node++) {
                check.due("top of " + node + " twice", net.resistance(node, node, 0), 0);
                check.due("bottom of " + node + " twice", net.resistance(node, node, 1), 1);
            }
        }
    }

    private static void resistanceNoNode(Check check) {
        for (int nodes = 0; nodes <= 10; nodes++) {
            TreeCounts net = Nets.line(nodes, 1);
            for (int node : new int[] {-1, nodes, nodes + 1, 10, 11, LEAST, MOST, -10, 256, 1 << 16}) {
                for (int side = 0; side <= 1; side++) {
                    check.due("resistance(" + node + ", 0, " + side + ")", net.resistance(node, 0, side), -1);
                    check.due("resistance(0, " + node + ", " + side + ")", net.resistance(0, node, side), -1);
                    check.due("resistance(" + node + ", " + node + ", " + side + ")", net.resistance(node, node, side), -1);
                }
            }
            if (nodes > 0) {
                check.due("resistance(0, last, 0)", net.resistance(0, nodes - 1, 0), nodes - 1);
                check.due("resistance(last, 0, 1)", net.resistance(nodes - 1, 0, 1), 1);
            }
        }
    }

    private static void resistanceNoSide(Check check) {
        TreeCounts net = Nets.of(3, 0, 1, 2, 1, 2, 3, 2, 0, 4);
        for (int side : new int[] {-1, 2, 3, -2, LEAST, MOST, LEAST + 1, MOST - 1, 256, 1 << 16}) {
            check.due("resistance(0, 1, " + side + ")", net.resistance(0, 1, side), -1);
            check.due("resistance(1, 1, " + side + ")", net.resistance(1, 1, side), -1);
            check.due("resistance(3, 1, " + side + ")", net.resistance(3, 1, side), -1);
        }
        check.due("side 0", net.resistance(0, 1, 0), 7);
        check.due("side 1", net.resistance(0, 1, 1), 26);
    }

    private static void resistanceNotWhole(Check check) {
        TreeCounts net = Nets.of(4, 0, 1, 2, 1, 2, 3, 2, 0, 4);
        for (int a = 0; a < 4; a++) {
            for (int b = 0; b < 4; b++) {
                check.due("top of " + a + ", " + b, net.resistance(a, b, 0), -1);
                check.due("bottom of " + a + ", " + b, net.resistance(a, b, 1), -1);
            }
        }
        // in two parts APART is not 0, and still there is no fraction
        check.due("apart of two parts", net.apart(0, 3), 26);
        net.arc(3, 0, 1);
        check.due("whole again", net.resistance(0, 3, 1), 1);
        net.drop();
        check.due("not whole again", net.resistance(0, 3, 1), -1);
        check.due("two nodes", Nets.of(2).resistance(0, 1, 0), -1);
        check.due("two nodes, one of them twice", Nets.of(2).resistance(1, 1, 0), -1);
        check.due("ten nodes, a bundle", Nets.bundle(10, 30, 9).resistance(0, 9, 1), -1);
    }

    /** (count - 1)! tours of so many loops at one node, 30 arcs of them at most. */
    private static void toursWrap(Check check) {
        BigInteger due = BigInteger.ONE;
        for (int count = 1; count <= 270; count++) {
            if (count > 2) {
                due = due.multiply(BigInteger.valueOf(count - 1));
            }
            TreeCounts net = Nets.of(1);
            for (int left = count; left > 0; left -= 9) {
                net.arc(0, 0, Math.min(left, 9));
            }
            check.due("tours() of " + count + " loops", net.tours(), due.longValue());
        }
        check.due("20!, the last that fits", Nets.of(1, 0, 0, 9, 0, 0, 9, 0, 0, 3).tours(), 2432902008176640000L);
        check.due("21!, the first that wraps", Nets.of(1, 0, 0, 9, 0, 0, 9, 0, 0, 4).tours(), -4249290049419214848L);
        TreeCounts most = Nets.of(1, 0, 0, 9, 0, 0, 9, 0, 0, 9, 0, 0, 9, 0, 0, 9, 0, 0, 9, 0, 0, 9, 0, 0, 3);
        check.due("65!, the least long", most.tours(), Long.MIN_VALUE);
        most.weigh(7, 4);
        check.due("66!, which is 0", most.tours(), 0);
        // nine times nine ways to go on, and 8! orders at each node of a round by 9
        BigInteger round = BigInteger.valueOf(9).pow(9).multiply(BigInteger.valueOf(40320).pow(10));
        check.due("a round of ten by 9", Nets.round(10, 9).tours(), round.longValue());
        check.due("a round of three by 3", Nets.round(3, 3).tours(), 72);
    }

    private static void toursWithoutArcs(Check check) {
        for (int nodes = 0; nodes <= 10; nodes++) {
            check.due("tours() of " + nodes + " nodes", Nets.of(nodes).tours(), 0);
        }
        TreeCounts net = Nets.of(1, 0, 0, 1);
        check.due("tours() of a loop", net.tours(), 1);
        net.drop();
        check.due("tours(), the loop dropped", net.tours(), 0);
        net.clear();
        check.due("tours() behind clear()", net.tours(), 0);
    }
}
