import java.util.List;

/** The boundaries that the terms of chips and promises 17 to 21 name. */
public final class ChipSentencesTest {
    private static final int LEAST = Integer.MIN_VALUE;
    private static final int MOST = Integer.MAX_VALUE;

    public static void main(String[] args) {
        Sentences sentences = new Sentences();
        sentences.ask("each NODE has 0 to 200 (at first 0", ChipSentencesTest::atFirst);
        sentences.ask("or more by what comes in SETTLING", ChipSentencesTest::moreBySettling);
        sentences.ask("Its DEGREE are the WEIGHTS of its ARCS, without LOOPS.", ChipSentencesTest::degrees);
        sentences.ask("some NODE that is not the SINK has its DEGREE of CHIPS, or more", ChipSentencesTest::degreeOrMore);
        sentences.ask("such a one FIRES (whichever; all ends alike)", ChipSentencesTest::allEndsAlike);
        sentences.ask("the SINK FIRES first (whatever it has)", ChipSentencesTest::sinkFiresFirst);
        sentences.ask("each other NODE FIRES just once", ChipSentencesTest::justOnce);
        sentences.ask("and before that none could FIRE", ChipSentencesTest::noneCouldFire);
        sentences.ask("(it is asked only; nothing changes)", ChipSentencesTest::askedOnly);
        sentences.ask("17: A NODE has so many CHIPS: how many it had", ChipSentencesTest::howManyItHad);
        sentences.ask("17: NONE when there is no such NODE", ChipSentencesTest::chipsNoNode);
        sentences.ask("17: or v is not 0 to 200", ChipSentencesTest::chipsOutside);
        sentences.ask("18: The CHIPS of a NODE; NONE when there is no such one", ChipSentencesTest::levels);
        sentences.ask("19: SETTLING with a SINK: how often NODES FIRED", ChipSentencesTest::settles);
        sentences.ask("19: NONE when there is no such NODE", ChipSentencesTest::settleNoNode);
        sentences.ask("19: or the net is not WHOLE", ChipSentencesTest::settleNotWhole);
        sentences.ask("20: How often a NODE FIRED in the latest settle() that was not NONE", ChipSentencesTest::latestSettle);
        sentences.ask("20: 0 before", ChipSentencesTest::firedBefore);
        sentences.ask("20: and without such a NODE", ChipSentencesTest::firedNoNode);
        sentences.ask("21: Whether the CHIPS are RECURRENT with a SINK: 1, 0", ChipSentencesTest::recurrents);
        sentences.ask("21: NONE as settle()", ChipSentencesTest::recurrentNone);
        sentences.end();
    }

    private static void atFirst(Check check) {
        TreeCounts net = Nets.of(10);
        for (int node = 0; node < 10; node++) {
            check.due("level(" + node + ") at first", net.level(node), 0);
            check.due("chips(" + node + ", 200)", net.chips(node, 200), 0);
            check.due("level(" + node + ")", net.level(node), 200);
            check.due("chips(" + node + ", 0)", net.chips(node, 0), 200);
            check.due("level(" + node + ")", net.level(node), 0);
            check.due("chips(" + node + ", 201)", net.chips(node, 201), -1);
            check.due("chips(" + node + ", -1)", net.chips(node, -1), -1);
            check.due("level(" + node + ")", net.level(node), 0);
        }
        TreeCounts late = Nets.of(1);
        late.chips(0, 200);
        late.node();
        check.due("a node that comes later, level(1)", late.level(1), 0);
        check.due("a node that comes later, chips(1, 5)", late.chips(1, 5), 0);
        check.due("the one before it, level(0)", late.level(0), 200);
    }

    private static void moreBySettling(Check check) {
        TreeCounts arc = Nets.of(2, 0, 1, 1);
        arc.chips(0, 200);
        arc.chips(1, 1);
        arc.settle(1);
        check.due("the sink, one more than 200", arc.level(1), 201);
        for (int k = 0; k < 200; k++) {
            arc.chips(0, 200);
            arc.settle(1);
        }
        check.due("the sink, far more", arc.level(1), 40201);
        check.due("all that goes back", arc.settle(0), 40201);
        check.due("its firings", arc.fired(1), 40201);
        check.due("level(0)", arc.level(0), 40201);
        check.due("chips(0, 3), how many it had", arc.chips(0, 3), 40201);
        check.due("chips(0, 201)", arc.chips(0, 201), -1);
        // node 0 has 15 arcs by 9 to each of two, so it need not fire with more than 200
        TreeCounts heavy = Nets.of(3);
        for (int k = 0; k < 30; k++) {
            heavy.arc(0, 1 + k % 2, 9);
        }
        heavy.chips(0, 134);
        heavy.chips(1, 135);
        check.due("settle(2)", heavy.settle(2), 1);
        check.due("a node that is not the sink", heavy.level(0), 269);
        heavy.chips(1, 134);
        check.due("settle(2), settled", heavy.settle(2), 0);
        check.due("it stays", heavy.level(0), 269);
    }

    private static void degrees(Check check) {
        for (int weight = 1; weight <= 9; weight++) {
            askDegree(check, Nets.of(2, 0, 1, weight), 0, 1, weight);
            askDegree(check, Nets.of(2, 1, 0, weight), 0, 1, weight);
            askDegree(check, Nets.of(2, 1, 0, weight, 0, 0, 9, 1, 1, 9), 0, 1, weight);
            askDegree(check, Nets.of(3, 1, 0, weight, 0, 2, 9, 1, 2, 5), 0, 2, weight + 9);
        }
        askDegree(check, Nets.bundle(2, 22, 9), 1, 0, 198);
        TreeCounts bundle = Nets.bundle(2, 22, 9);
        bundle.arc(0, 1, 2);
        askDegree(check, bundle, 0, 1, 200);
        bundle.arc(0, 1, 1);
        bundle.chips(0, 200);
        bundle.chips(1, 0);
        check.due("a degree of 201", bundle.settle(1), 0);
        askDegree(check, Nets.petersen(), 9, 0, 3);
        askDegree(check, Nets.full(9), 0, 9, 54);
    }

    /** A node with one chip less than its degree fires not, with its degree just once. */
    private static void askDegree(Check check, TreeCounts net, int node, int sink, int degree) {
        net.chips(node, degree - 1);
        check.due("one chip less than " + degree, net.settle(sink), 0);
        check.due("it stays", net.level(node), degree - 1);
        net.chips(node, degree);
        check.due(degree + " chips", net.settle(sink), 1);
        check.due("it fired", net.fired(node), 1);
        check.due("none is left", net.level(node), 0);
    }

    private static void degreeOrMore(Check check) {
        for (int chips = 0; chips <= 200; chips++) {
            TreeCounts net = Nets.of(2, 0, 1, 7);
            net.chips(0, chips);
            check.due("firings of " + chips, net.settle(1), chips / 7);
            check.due("left of " + chips, net.level(0), chips % 7);
            check.due("came of " + chips, net.level(1), chips - chips % 7);
        }
        TreeCounts sink = Nets.of(2, 0, 1, 1);
        sink.chips(1, 200);
        check.due("the sink fires not", sink.settle(1), 0);
        check.due("it has all", sink.level(1), 200);
        TreeCounts one = Nets.of(1, 0, 0, 9);
        one.chips(0, 200);
        check.due("the sink alone", one.settle(0), 0);
        check.due("it has all", one.level(0), 200);
        check.due("no firing of it", one.fired(0), 0);
    }

    /** The nodes numbered from the other end, so that another one fires first: what they have is the same. */
    private static void allEndsAlike(Check check) {
        TreeCounts net = Nets.of(5, 0, 1, 2, 1, 2, 1, 2, 3, 3, 3, 4, 1, 4, 1, 5);
        TreeCounts turned = Nets.of(5, 4, 3, 2, 3, 2, 1, 2, 1, 3, 1, 0, 1, 0, 3, 5);
        for (int sink = 0; sink < 5; sink++) {
            for (int node = 0; node < 5; node++) {
                net.chips(node, 200 - 37 * node);
                turned.chips(4 - node, 200 - 37 * node);
            }
            check.due("settle(" + sink + ")", turned.settle(4 - sink), net.settle(sink));
            for (int node = 0; node < 5; node++) {
                check.due("level(" + node + ")", turned.level(4 - node), net.level(node));
                check.due("fired(" + node + ")", turned.fired(4 - node), net.fired(node));
            }
        }
    }

    private static void sinkFiresFirst(Check check) {
        for (int chips : new int[] {0, 1, 2, 3, 199, 200}) {
            TreeCounts net = Nets.round(3, 1);
            net.chips(0, 1);
            net.chips(1, 1);
            net.chips(2, chips);
            check.due("the sink has " + chips, net.recurrent(2), 1);
            net.chips(1, 0);
            check.due("the sink has " + chips + ", node 1 none", net.recurrent(2), 1);
            net.chips(0, 0);
            check.due("the sink has " + chips + ", the others none", net.recurrent(2), 0);
        }
        TreeCounts more = Nets.of(2, 0, 1, 1);
        more.chips(0, 200);
        more.settle(1);
        more.chips(0, 200);
        more.settle(1);
        check.due("the sink has 400", more.recurrent(1), 1);
        check.due("the only node", Nets.of(1).recurrent(0), 1);
        check.due("the only node, a loop", Nets.of(1, 0, 0, 3).recurrent(0), 1);
    }

    private static void justOnce(Check check) {
        // on a line of arcs by 1 each node has all of the way behind it to give on
        TreeCounts line = Nets.line(10, 1);
        for (int node = 1; node < 9; node++) {
            line.chips(node, 1);
        }
        check.due("a line, one chip each", line.recurrent(9), 1);
        check.due("a line, from its other end", line.recurrent(0), 1);
        line.chips(4, 0);
        check.due("a line with a gap", line.recurrent(9), 0);
        check.due("a line with a gap, its other end", line.recurrent(0), 0);
        check.due("a line with a gap, the gap", line.recurrent(4), 1);
        TreeCounts star = Nets.of(4, 0, 1, 3, 0, 2, 3, 0, 3, 3);
        star.chips(1, 2);
        star.chips(2, 2);
        star.chips(3, 2);
        check.due("a star, its middle", star.recurrent(0), 1);
        star.chips(3, 0);
        check.due("a star, one of them has none", star.recurrent(0), 1);
        // the middle needs 9 and gets 3
        star.chips(0, 5);
        check.due("a star, the middle has too few", star.recurrent(3), 0);
        star.chips(0, 6);
        check.due("a star, the middle has enough", star.recurrent(3), 1);
    }

    private static void noneCouldFire(Check check) {
        TreeCounts net = Nets.round(3, 1);
        net.chips(0, 1);
        net.chips(1, 1);
        check.due("one less than the degree", net.recurrent(2), 1);
        net.chips(0, 2);
        check.due("node 0 could fire", net.recurrent(2), 0);
        net.chips(0, 1);
        net.chips(1, 2);
        check.due("node 1 could fire", net.recurrent(2), 0);
        net.chips(1, 200);
        check.due("node 1 could fire often", net.recurrent(2), 0);
        check.due("node 1 is the sink, which could fire often", net.recurrent(1), 1);
        net.chips(2, 1);
        check.due("one less than the degree on both others", net.recurrent(1), 1);
        net.chips(2, 2);
        check.due("node 2 could fire", net.recurrent(1), 0);
        TreeCounts loop = Nets.of(2, 0, 1, 2, 0, 0, 9);
        loop.chips(0, 1);
        check.due("a loop counts not, one less", loop.recurrent(1), 1);
        loop.chips(0, 2);
        check.due("a loop counts not, it could", loop.recurrent(1), 0);
    }

    private static void askedOnly(Check check) {
        TreeCounts net = Nets.of(4, 0, 1, 2, 1, 2, 1, 2, 3, 1, 3, 0, 2, 0, 2, 1);
        net.chips(0, 9);
        net.settle(3);
        long[] fired = new long[4];
        for (int node = 0; node < 4; node++) {
            fired[node] = net.fired(node);
            net.chips(node, 1 + node);
        }
        check.holds("something fired", fired[0] > 0);
        for (int sink = 0; sink < 4; sink++) {
            net.recurrent(sink);
            net.recurrent(4);
            for (int node = 0; node < 4; node++) {
                check.due("level(" + node + ") behind recurrent(" + sink + ")", net.level(node), 1 + node);
                check.due("fired(" + node + ") behind recurrent(" + sink + ")", net.fired(node), fired[node]);
            }
        }
    }

    private static void howManyItHad(Check check) {
        TreeCounts net = Nets.of(10);
        for (int v = 0; v <= 200; v++) {
            check.due("chips(9, " + v + ")", net.chips(9, v), v == 0 ? 0 : v - 1);
        }
        check.due("chips(9, 200) again", net.chips(9, 200), 200);
        check.due("chips(0, 200)", net.chips(0, 200), 0);
        check.due("chips(0, 0)", net.chips(0, 0), 200);
        check.due("chips(0, 1)", net.chips(0, 1), 0);
        check.due("level(9)", net.level(9), 200);
        for (int node = 1; node < 9; node++) {
            check.due("level(" + node + ")", net.level(node), 0);
        }
    }

    private static void chipsNoNode(Check check) {
        for (int nodes = 0; nodes <= 10; nodes++) {
            TreeCounts net = Nets.of(nodes);
            for (int node : new int[] {-1, nodes, nodes + 1, 10, 11, LEAST, MOST, -10, 256, 1 << 16}) {
                check.due("chips(" + node + ", 0) of " + nodes, net.chips(node, 0), -1);
                check.due("chips(" + node + ", 200) of " + nodes, net.chips(node, 200), -1);
                check.due("chips(" + node + ", 201) of " + nodes, net.chips(node, 201), -1);
            }
            if (nodes > 0) {
                check.due("chips(last, 5) of " + nodes, net.chips(nodes - 1, 5), 0);
            }
            if (nodes < 10) {
                net.node();
                check.due("the next node has none of what was refused", net.level(nodes), 0);
            }
        }
    }

    private static void chipsOutside(Check check) {
        TreeCounts net = Nets.of(1);
        net.chips(0, 7);
        for (int v : new int[] {-1, 201, -2, 202, -200, -201, 256, 1000, LEAST, MOST, LEAST + 1, MOST - 1, 1 << 16, 1 << 8 | 5}) {
            check.due("chips(0, " + v + ")", net.chips(0, v), -1);
            check.due("level(0) behind it", net.level(0), 7);
        }
        check.due("chips(0, 0)", net.chips(0, 0), 7);
        check.due("chips(0, 200)", net.chips(0, 200), 0);
        check.due("level(0)", net.level(0), 200);
    }

    private static void levels(Check check) {
        for (int nodes = 0; nodes <= 10; nodes++) {
            TreeCounts net = Nets.of(nodes);
            for (int node = 0; node < nodes; node++) {
                net.chips(node, 10 + node);
            }
            for (int node = 0; node < nodes; node++) {
                check.due("level(" + node + ") of " + nodes, net.level(node), 10 + node);
            }
            for (int node : new int[] {-1, nodes, nodes + 1, 10, 11, LEAST, MOST, -10, 256, 1 << 16}) {
                check.due("level(" + node + ") of " + nodes, net.level(node), -1);
            }
        }
    }

    private static void settles(Check check) {
        check.due("one node", Nets.of(1).settle(0), 0);
        check.due("nodes without chips", Nets.full(9).settle(9), 0);
        TreeCounts net = Nets.line(3, 1);
        net.chips(0, 4);
        check.due("settle(2)", net.settle(2), 10);
        check.due("fired(0)", net.fired(0), 7);
        check.due("fired(1)", net.fired(1), 3);
        check.due("fired(2)", net.fired(2), 0);
        check.due("level(0)", net.level(0), 0);
        check.due("level(1)", net.level(1), 1);
        check.due("level(2)", net.level(2), 3);
        check.due("settle(2) again", net.settle(2), 0);
        check.due("settle(0)", net.settle(0), 9);
        check.due("fired(0) of that", net.fired(0), 0);
        check.due("fired(1) of that", net.fired(1), 3);
        check.due("fired(2) of that", net.fired(2), 6);
        settleLongLine(check);
        settleFull(check);
    }

    /** 200 chips on every node of a line of ten: each firing is made by itself here. */
    private static void settleLongLine(Check check) {
        TreeCounts net = Nets.line(10, 1);
        SlowNet slow = new SlowNet();
        for (int node = 0; node < 10; node++) {
            slow.node();
        }
        for (int k = 0; k < 9; k++) {
            slow.arc(k, k + 1, 1);
        }
        for (int turn = 0; turn < 4; turn++) {
            for (int node = 0; node < 10; node++) {
                check.due("chips(" + node + ", 200)", net.chips(node, 200), slow.chips(node, 200));
            }
            int sink = turn * 3;
            check.due("settle(" + sink + ") of a line", net.settle(sink), slow.settle(sink));
            for (int node = 0; node < 10; node++) {
                check.due("level(" + node + ")", net.level(node), slow.level(node));
                check.due("fired(" + node + ")", net.fired(node), slow.fired(node));
            }
        }
    }

    private static void settleFull(Check check) {
        TreeCounts net = Nets.full(9);
        for (int node = 0; node < 10; node++) {
            net.chips(node, 200);
        }
        long sum = net.settle(0);
        long chips = 0;
        for (int node = 0; node < 10; node++) {
            sum -= net.fired(node);
            chips += net.level(node);
            check.holds("settled: " + node, node == 0 || net.level(node) >= 0 && net.level(node) < 54);
        }
        check.due("the sum less the firings of each", sum, 0);
        check.due("no chip is lost", chips, 2000);
    }

    private static void settleNoNode(Check check) {
        for (int nodes = 0; nodes <= 10; nodes++) {
            TreeCounts net = Nets.line(nodes, 1);
            for (int node = 0; node < nodes; node++) {
                net.chips(node, 200);
            }
            for (int sink : new int[] {-1, nodes, nodes + 1, 10, 11, LEAST, MOST, -10, 256, 1 << 16}) {
                check.due("settle(" + sink + ") of " + nodes, net.settle(sink), -1);
            }
            for (int node = 0; node < nodes; node++) {
                check.due("level(" + node + ")", net.level(node), 200);
                check.due("fired(" + node + ")", net.fired(node), 0);
            }
            if (nodes > 0) {
                check.holds("settle(last) of " + nodes, net.settle(nodes - 1) >= 0);
                check.holds("settle(0) of " + nodes, net.settle(0) >= 0);
            }
        }
    }

    private static void settleNotWhole(Check check) {
        for (TreeCounts net : List.of(Nets.of(2), Nets.of(2, 0, 0, 1, 1, 1, 1), Nets.of(3, 0, 1, 1), Nets.of(4, 0, 1, 1, 2, 3, 1), Nets.bundle(10, 30, 1))) {
            int nodes = net.told(0);
            for (int node = 0; node < nodes; node++) {
                net.chips(node, 200);
            }
            for (int sink = 0; sink < nodes; sink++) {
                check.due("settle(" + sink + ")", net.settle(sink), -1);
            }
            for (int node = 0; node < nodes; node++) {
                check.due("level(" + node + ")", net.level(node), 200);
                check.due("fired(" + node + ")", net.fired(node), 0);
            }
        }
        TreeCounts net = Nets.of(2, 0, 1, 1);
        net.chips(0, 3);
        net.drop();
        check.due("settle(1), the arc dropped", net.settle(1), -1);
        net.arc(1, 0, 1);
        check.due("settle(1), an arc again", net.settle(1), 3);
    }

    private static void latestSettle(Check check) {
        TreeCounts net = Nets.line(3, 1);
        net.chips(0, 4);
        net.settle(2);
        askFired(check, "the first settle()", net, 7, 3, 0);
        net.settle(3);
        askFired(check, "no such sink", net, 7, 3, 0);
        net.settle(-1);
        askFired(check, "no such sink", net, 7, 3, 0);
        net.node();
        net.settle(0);
        askFired(check, "not whole", net, 7, 3, 0, 0);
        net.arc(0, 0, 1);
        net.weigh(0, 9);
        net.drop();
        net.chips(0, 0);
        net.recurrent(2);
        askFired(check, "calls of other kinds", net, 7, 3, 0, 0);
        net.weigh(0, 1);
        net.arc(2, 3, 1);
        check.due("settle(3)", net.settle(3), 6);
        askFired(check, "the second settle()", net, 2, 2, 2, 0);
        check.due("settle(3), settled", net.settle(3), 0);
        askFired(check, "a settle() without a firing", net, 0, 0, 0, 0);
    }

    private static void askFired(Check check, String behind, TreeCounts net, long... dues) {
        for (int node = 0; node < dues.length; node++) {
            check.due("fired(" + node + ") behind " + behind, net.fired(node), dues[node]);
        }
        check.due("fired(" + dues.length + ") behind " + behind, net.fired(dues.length), 0);
    }

    private static void firedBefore(Check check) {
        TreeCounts net = Nets.full(9);
        for (int node = 0; node < 10; node++) {
            net.chips(node, 200);
            check.due("fired(" + node + ")", net.fired(node), 0);
        }
        check.due("settle(10)", net.settle(10), -1);
        for (int node = 0; node < 10; node++) {
            check.due("recurrent(" + node + ")", net.recurrent(node), 0);
            check.due("fired(" + node + ")", net.fired(node), 0);
        }
        net.settle(0);
        check.holds("fired(1) behind settle()", net.fired(1) > 0);
        net.clear();
        Nets.addNodes(net, 10);
        for (int node = 0; node < 10; node++) {
            check.due("fired(" + node + ") behind clear()", net.fired(node), 0);
        }
    }

    private static void firedNoNode(Check check) {
        for (int nodes = 0; nodes <= 10; nodes++) {
            TreeCounts net = Nets.line(nodes, 1);
            for (int node = 0; node < nodes; node++) {
                net.chips(node, 200);
            }
            net.settle(0);
            for (int node : new int[] {-1, nodes, nodes + 1, 10, 11, LEAST, MOST, -10, 256, 1 << 16}) {
                check.due("fired(" + node + ") of " + nodes, net.fired(node), 0);
            }
            if (nodes > 1) {
                check.holds("fired(last) of " + nodes, net.fired(nodes - 1) > 0);
            }
        }
    }

    /** Of all chips below the degrees, as many are recurrent as there are trees. */
    private static void recurrents(Check check) {
        for (int sink = 0; sink < 3; sink++) {
            TreeCounts net = Nets.of(3, 0, 1, 1, 1, 2, 2, 2, 0, 3, 1, 1, 9);
            int one = (sink + 1) % 3;
            int other = (sink + 2) % 3;
            long back = 0;
            for (int a = 0; a <= 6; a++) {
                for (int b = 0; b <= 6; b++) {
                    net.chips(one, a);
                    net.chips(other, b);
                    int answer = net.recurrent(sink);
                    check.holds("1 or 0", answer == 1 || answer == 0);
                    back += answer;
                }
            }
            check.due("how many with sink " + sink, back, net.trees());
        }
        TreeCounts full = Nets.full(9);
        for (int node = 0; node < 10; node++) {
            full.chips(node, 53);
        }
        check.due("as many as can be without firing", full.recurrent(0), 1);
        full.chips(9, 54);
        check.due("one more on node 9", full.recurrent(0), 0);
        check.due("one more on node 9, the sink", full.recurrent(9), 1);
        check.due("no chips", Nets.full(9).recurrent(0), 0);
        check.due("no chips, a line", Nets.line(2, 1).recurrent(0), 1);
    }

    private static void recurrentNone(Check check) {
        for (int nodes = 0; nodes <= 10; nodes++) {
            TreeCounts net = Nets.line(nodes, 1);
            for (int sink : new int[] {-1, nodes, nodes + 1, 10, 11, LEAST, MOST, -10, 256, 1 << 16}) {
                check.due("recurrent(" + sink + ") of " + nodes, net.recurrent(sink), -1);
            }
            if (nodes > 0) {
                check.holds("recurrent(last) of " + nodes, net.recurrent(nodes - 1) >= 0);
                check.holds("recurrent(0) of " + nodes, net.recurrent(0) >= 0);
            }
        }
        for (TreeCounts net : List.of(Nets.of(2), Nets.of(2, 0, 0, 1, 1, 1, 1), Nets.of(3, 0, 1, 1), Nets.of(4, 0, 1, 1, 2, 3, 1), Nets.bundle(10, 30, 1))) {
            int nodes = net.told(0);
            for (int sink = 0; sink < nodes; sink++) {
                check.due("recurrent(" + sink + "), not whole", net.recurrent(sink), -1);
            }
        }
    }
}
