import java.math.BigInteger;

/** The sentences of 'Terms' (and of 'What it is') that name a boundary, each by itself. */
public final class TermsTest {
    private static final int LEAST = Integer.MIN_VALUE;
    private static final int MOST = Integer.MAX_VALUE;

    public static void main(String[] args) {
        Sentences sentences = new Sentences();
        sentences.ask("An object is used for at most 512 calls after it has been made", TermsTest::lastCall);
        sentences.ask("NONE is -1.", check -> check.due("NONE", TreeCounts.NONE, -1));
        sentences.ask("A FRACTION has a top and a bottom (above 0) that have nothing in common.", TermsTest::fraction);
        sentences.ask("NODES 0, 1, .. are at most 10.", TermsTest::mostNodes);
        sentences.ask("ARCS 0, 1, .. are at most 30", TermsTest::mostArcs);
        sentences.ask("each from a NODE to a NODE (perhaps the same one: a LOOP)", TermsTest::loops);
        sentences.ask("with a WEIGHT, 1 to 9.", TermsTest::weights);
        sentences.ask("Where nothing is said of ways, they go both ways.", TermsTest::bothWays);
        sentences.ask("of one NODE: no ARCS; without NODES there is none", TermsTest::smallestTrees);
        sentences.ask("Its PRODUCT is that of its ARCS' WEIGHTS (1 without).", TermsTest::products);
        sentences.ask("The net is WHOLE when it has a TREE.", TermsTest::whole);
        sentences.ask("those with ARC 0 before those without", TermsTest::order);
        sentences.ask("Each TREE stands in THE ROW as often as its PRODUCT, one behind the other.", TermsTest::row);
        sentences.ask("from each other NODE there is just one way to it, and out of it no ARC", TermsTest::towards);
        sentences.ask("sets of ARCS without rings, with one NODE of each of its parts marked", TermsTest::marked);
        sentences.ask("two parts of the net's, each a TREE of its NODES, a in one, b in the other", TermsTest::twoParts);
        sentences.ask("each being as many as its WEIGHT, told apart", TermsTest::toldApart);
        sentences.ask("goes along each ARC just once, and ends where it began", TermsTest::endsWhereItBegan);
        sentences.ask("those that begin elsewhere on the same round are one", TermsTest::oneRound);
        sentences.ask("THE FIRST TREES: ARCS, by numbers, each that makes no ring with those taken before.", TermsTest::firstTrees);
        sentences.ask("itself, and then, from its end to its beginning, the taken ARCS between them", TermsTest::ringsWay);
        sentences.ask("by FIRING NODES (NODE 0, too), forwards or backwards", TermsTest::groupOfAnyNumbers);
        sentences.ask("gives each ARC's WEIGHT to its other end", TermsTest::givesToOtherEnds);
        sentences.ask("a LOOP's to none", TermsTest::loopsGiveNone);
        sentences.ask("each above 1, each dividing the next), and of no others", TermsTest::chainOfRounds);
        sentences.ask("What ARCS and NODES are told changes no CHIPS.", TermsTest::chipsStay);
        sentences.end();
    }

    private static void lastCall(Check check) {
        TreeCounts arc = Nets.of(2, 0, 1, 1);
        for (int k = 0; k < 254; k++) {
            arc.chips(0, 200);
            arc.settle(1);
        }
        check.due("the 512th call, level(1)", arc.level(1), 254 * 200);

        TreeCounts dropped = Nets.full(9);
        for (int k = 0; k < 235; k++) {
            dropped.drop();
            dropped.arc(9, 3, 9);
        }
        check.due("the 511th call, told(1)", dropped.told(1), 30);
        check.due("the 512th call, trees()", dropped.trees(), Nets.full(9).trees());

        TreeCounts weighed = Nets.full(9);
        for (int k = 0; k < 471; k++) {
            weighed.weigh(k % 30, 1 + k % 9);
        }
        TreeCounts twin = Nets.full(9);
        for (int k = 441; k < 471; k++) {
            twin.weigh(k % 30, 1 + k % 9);
        }
        check.due("the 512th call, forests()", weighed.forests(), twin.forests());

        TreeCounts cleared = new TreeCounts();
        for (int k = 0; k < 46; k++) {
            cleared.clear();
            Nets.addNodes(cleared, 10);
        }
        for (int k = 0; k < 5; k++) {
            check.due("an eleventh node()", cleared.node(), -1);
        }
        check.due("the 512th call, rooted(9)", cleared.rooted(9), 0);
    }

    private static void fraction(Check check) {
        askFractions(check, Nets.line(10, 1));
        askFractions(check, Nets.line(4, 9));
        askFractions(check, Nets.allJoined(8, 9));
        askFractions(check, Nets.bundle(2, 30, 9));
        askFractions(check, Nets.full(9));
        askFractions(check, Nets.of(4, 0, 1, 6, 1, 2, 4, 2, 3, 9, 3, 0, 3, 0, 2, 8));
        TreeCounts line = Nets.line(10, 1);
        check.due("top of 9 by 1", line.resistance(0, 9, 0), 9);
        check.due("bottom of 9 by 1", line.resistance(0, 9, 1), 1);
        TreeCounts bundle = Nets.bundle(2, 30, 9);
        check.due("top of 1 by 270", bundle.resistance(0, 1, 0), 1);
        check.due("bottom of 1 by 270", bundle.resistance(1, 0, 1), 270);
    }

    private static void askFractions(Check check, TreeCounts net) {
        BigInteger count = BigInteger.valueOf(net.trees());
        int nodes = net.told(0);
        for (int a = 0; a < nodes; a++) {
            for (int b = 0; b < nodes; b++) {
                BigInteger top = BigInteger.valueOf(net.resistance(a, b, 0));
                BigInteger bottom = BigInteger.valueOf(net.resistance(a, b, 1));
                String pair = a + ", " + b;
                check.holds("a bottom above 0: " + pair, bottom.signum() > 0);
                check.holds("nothing in common: " + pair, top.gcd(bottom).equals(BigInteger.ONE));
                BigInteger apart = BigInteger.valueOf(net.apart(a, b));
                check.holds("APART by THE COUNT: " + pair, top.multiply(count).equals(apart.multiply(bottom)));
            }
        }
    }

    private static void mostNodes(Check check) {
        TreeCounts net = new TreeCounts();
        for (int node = 0; node < 10; node++) {
            check.due("told(0) with " + node, net.told(0), node);
            check.due("level() of the next one", net.level(node), -1);
            check.due("node()", net.node(), node);
            check.due("level(" + node + ")", net.level(node), 0);
        }
        check.due("an eleventh node()", net.node(), -1);
        check.due("a twelfth node()", net.node(), -1);
        check.due("told(0)", net.told(0), 10);
        check.due("level(9)", net.level(9), 0);
        check.due("level(10)", net.level(10), -1);
        check.due("arc(9, 0, 1)", net.arc(9, 0, 1), 0);
        check.due("arc(10, 0, 1)", net.arc(10, 0, 1), -1);
        check.due("arc(0, 10, 1)", net.arc(0, 10, 1), -1);
    }

    private static void mostArcs(Check check) {
        TreeCounts net = Nets.of(10);
        for (int arc = 0; arc < 30; arc++) {
            check.due("told(1) with " + arc, net.told(1), arc);
            check.due("through() of the next one", net.through(arc), -1);
            check.due("arc", net.arc(arc % 10, (arc + 1) % 10, 1), arc);
        }
        check.due("a thirty-first arc", net.arc(0, 1, 1), -1);
        check.due("a thirty-first arc, a loop", net.arc(0, 0, 1), -1);
        check.due("told(1)", net.told(1), 30);
        check.due("through(30)", net.through(30), -1);
        check.due("weigh(30, 1)", net.weigh(30, 1), -1);
        check.due("weigh(29, 1)", net.weigh(29, 1), 1);
        // a round of ten with three arcs for each step: ten ways to leave one step out
        check.due("trees()", net.trees(), 10 * 19683);
        check.due("through(29)", net.through(29), 9 * 6561);
    }

    private static void loops(Check check) {
        TreeCounts net = Nets.of(10);
        check.due("arc(0, 0, 1)", net.arc(0, 0, 1), 0);
        check.due("arc(9, 9, 9)", net.arc(9, 9, 9), 1);
        check.due("arc(9, 9, 9) once more", net.arc(9, 9, 9), 2);
        check.due("told(1)", net.told(1), 3);
        check.due("parts", net.told(2), 10);
        check.due("rings", net.told(3), 3);
        check.due("forests()", net.forests(), 1);
        TreeCounts one = Nets.of(1);
        for (int k = 0; k < 30; k++) {
            check.due("loop " + k, one.arc(0, 0, 9), k);
        }
        check.due("a thirty-first loop", one.arc(0, 0, 9), -1);
        check.due("trees() of loops", one.trees(), 1);
        check.due("drawn(0) of loops", one.drawn(0), 0);
        check.due("through(29), a loop", one.through(29), 0);
        check.due("rooted(0) of loops", one.rooted(0), 1);
    }

    private static void weights(Check check) {
        for (int weight = 1; weight <= 9; weight++) {
            TreeCounts net = Nets.of(2);
            check.due("arc of weight " + weight, net.arc(0, 1, weight), 0);
            check.due("trees() by " + weight, net.trees(), weight);
            check.due("weigh, what it was", net.weigh(0, 10 - weight), weight);
            check.due("trees() by " + (10 - weight), net.trees(), 10 - weight);
        }
        TreeCounts net = Nets.of(2, 0, 1, 5);
        for (int weight : new int[] {0, 10, -1, 11, 100, LEAST, MOST, 1 + 256, 9 + 65536, LEAST + 1}) {
            check.due("arc of weight " + weight, net.arc(0, 1, weight), -1);
            check.due("weigh(0, " + weight + ")", net.weigh(0, weight), -1);
        }
        check.due("told(1)", net.told(1), 1);
        check.due("trees()", net.trees(), 5);
    }

    /** Each arc the other way round: only trees towards a node, tours and rings may differ. */
    private static void bothWays(Check check) {
        TreeCounts there = Nets.of(4, 0, 1, 2, 1, 2, 3, 2, 3, 1, 3, 0, 4, 0, 2, 5);
        TreeCounts back = Nets.of(4, 1, 0, 2, 2, 1, 3, 3, 2, 1, 0, 3, 4, 2, 0, 5);
        check.due("trees()", there.trees(), back.trees());
        check.due("forests()", there.forests(), back.forests());
        check.due("point(4, -7)", there.point(4, -7), back.point(4, -7));
        for (int k = 0; k < 5; k++) {
            check.due("through(" + k + ")", there.through(k), back.through(k));
            check.due("told(" + (k + 1) + ")", there.told(k + 1), back.told(k + 1));
            check.due("group(" + k + ")", there.group(k), back.group(k));
            check.due("apart(" + k + ", 2)", there.apart(k, 2), back.apart(k, 2));
            check.due("drawn(" + 19 * k + ")", there.drawn(19 * k), back.drawn(19 * k));
            check.due("place()", there.place(there.drawn(19 * k)), back.place(there.drawn(19 * k)));
            check.due("chips", there.chips(k, 40 * k), back.chips(k, 40 * k));
        }
        check.due("settle(1)", there.settle(1), back.settle(1));
        for (int k = 0; k < 4; k++) {
            check.due("level(" + k + ")", there.level(k), back.level(k));
            check.due("fired(" + k + ")", there.fired(k), back.fired(k));
            check.due("recurrent(" + k + ")", there.recurrent(k), back.recurrent(k));
        }
        check.due("trees() against an arc", Nets.of(2, 1, 0, 7).trees(), 7);
        check.due("rooted(0) along it", Nets.of(2, 1, 0, 7).rooted(0), 7);
        check.due("rooted(1) against it", Nets.of(2, 1, 0, 7).rooted(1), 0);
    }

    private static void smallestTrees(Check check) {
        TreeCounts none = new TreeCounts();
        check.due("trees() without nodes", none.trees(), 0);
        check.due("drawn(0) without nodes", none.drawn(0), -1);
        check.due("place(0) without nodes", none.place(0), -1);
        TreeCounts one = Nets.of(1);
        check.due("trees() of one node", one.trees(), 1);
        check.due("drawn(0) of one node", one.drawn(0), 0);
        check.due("drawn(1) of one node", one.drawn(1), -1);
        check.due("place(0) of one node", one.place(0), 0);
        check.due("place(1) of one node", one.place(1), -1);
        one.arc(0, 0, 4);
        check.due("trees() with a loop", one.trees(), 1);
        check.due("drawn(0) with a loop", one.drawn(0), 0);
        check.due("drawn(1) with a loop", one.drawn(1), -1);
        check.due("place(0) with a loop", one.place(0), 0);
        check.due("place(1), the loop", one.place(1), -1);
        TreeCounts two = Nets.of(2);
        check.due("trees() of two nodes", two.trees(), 0);
        check.due("drawn(0) of two nodes", two.drawn(0), -1);
        check.due("place(0) of two nodes", two.place(0), -1);
    }

    private static void products(Check check) {
        check.due("one node, no arcs", Nets.of(1).trees(), 1);
        check.due("nine arcs by 9", Nets.line(10, 9).trees(), 387420489);
        check.due("nine arcs by 9, the last place", Nets.line(10, 9).drawn(387420488), 511);
        check.due("behind the last place", Nets.line(10, 9).drawn(387420489), -1);
        check.due("nine arcs by 1", Nets.line(10, 1).trees(), 1);
        check.due("arcs by 2, 3 and 5", Nets.of(4, 0, 1, 2, 0, 2, 3, 0, 3, 5).trees(), 30);
        check.due("the arcs beside the tree count not", Nets.of(2, 0, 1, 2, 0, 0, 9, 1, 1, 7).trees(), 2);
    }

    private static void whole(Check check) {
        TreeCounts net = new TreeCounts();
        askWhole(check, "no nodes", net, false);
        net.node();
        askWhole(check, "one node", net, true);
        net.node();
        askWhole(check, "two nodes", net, false);
        net.arc(0, 0, 1);
        net.arc(1, 1, 1);
        askWhole(check, "two loops", net, false);
        net.arc(1, 0, 1);
        askWhole(check, "two nodes and an arc", net, true);
        net.node();
        askWhole(check, "a node aside", net, false);
        net.arc(2, 0, 9);
        askWhole(check, "a star", net, true);
        net.drop();
        askWhole(check, "its last arc dropped", net, false);
        askWhole(check, "ten nodes", Nets.line(10, 1), true);
        TreeCounts line = Nets.line(10, 1);
        line.drop();
        askWhole(check, "nine of ten nodes", line, false);
        askWhole(check, "two rounds", Nets.of(6, 0, 1, 1, 1, 2, 1, 2, 0, 1, 3, 4, 1, 4, 5, 1, 5, 3, 1), false);
        askWhole(check, "a net as full as can be", Nets.full(9), true);
    }

    private static void askWhole(Check check, String name, TreeCounts net, boolean whole) {
        check.holds(name + ": trees()", net.trees() > 0 == whole);
        check.holds(name + ": drawn(0)", net.drawn(0) >= 0 == whole);
        check.holds(name + ": resistance(0, 0, 1)", net.resistance(0, 0, 1) == (whole ? 1 : -1));
        check.holds(name + ": settle(0)", net.settle(0) == (whole ? 0 : -1));
        check.holds(name + ": recurrent(0)", net.recurrent(0) != -1 == whole);
    }

    private static void order(Check check) {
        // four nodes all joined, arcs 01 02 03 12 13 23: three arcs each, but for the four rings of three
        int[] trees = {0x07, 0x13, 0x23, 0x0d, 0x25, 0x19, 0x29, 0x31, 0x0e, 0x16, 0x1a, 0x2a, 0x32, 0x1c, 0x2c, 0x34};
        TreeCounts net = Nets.allJoined(4, 1);
        for (int place = 0; place < 16; place++) {
            check.due("drawn(" + place + ")", net.drawn(place), trees[place]);
            check.due("place(" + trees[place] + ")", net.place(trees[place]), place);
        }
        check.due("the first one has arcs 0, 1, 2", net.drawn(0), 0x07);
        check.due("the last one with arc 0", net.drawn(7) & 1, 1);
        check.due("the first one without arc 0", net.drawn(8) & 1, 0);
        check.due("the last one, without arcs 0 and 1", net.drawn(15) & 3, 0);
        TreeCounts bundle = Nets.bundle(2, 30, 1);
        for (int arc = 0; arc < 30; arc++) {
            check.due("drawn(" + arc + ") of a bundle", bundle.drawn(arc), 1 << arc);
            check.due("place(arc " + arc + ")", bundle.place(1 << arc), arc);
        }
    }

    private static void row(Check check) {
        TreeCounts net = Nets.of(3, 0, 1, 2, 1, 2, 1, 2, 0, 3);
        int[] row = {3, 3, 5, 5, 5, 5, 5, 5, 6, 6, 6};
        for (int place = 0; place < row.length; place++) {
            check.due("drawn(" + place + ")", net.drawn(place), row[place]);
        }
        check.due("drawn(11)", net.drawn(11), -1);
        check.due("place(3)", net.place(3), 0);
        check.due("place(5)", net.place(5), 2);
        check.due("place(6)", net.place(6), 8);
        TreeCounts bundle = Nets.bundle(2, 30, 9);
        for (int place = 0; place < 270; place++) {
            check.due("drawn(" + place + ") of a bundle", bundle.drawn(place), 1 << place / 9);
        }
        check.due("drawn(270) of a bundle", bundle.drawn(270), -1);
    }

    private static void towards(Check check) {
        TreeCounts line = Nets.line(4, 3);
        check.due("towards the end", line.rooted(3), 27);
        check.due("towards the beginning", line.rooted(0), 0);
        check.due("towards the middle", line.rooted(1), 0);
        TreeCounts round = Nets.round(4, 2);
        for (int node = 0; node < 4; node++) {
            check.due("on a round, towards " + node, round.rooted(node), 8);
        }
        // out of the root, too, there are arcs, which no tree towards it has
        TreeCounts pair = Nets.of(2, 0, 1, 2, 1, 0, 5, 0, 0, 9, 0, 1, 3);
        check.due("towards 1", pair.rooted(1), 5);
        check.due("towards 0", pair.rooted(0), 5);
        check.due("of one node", Nets.of(1).rooted(0), 1);
        check.due("a node with no way out", Nets.of(3, 0, 1, 1, 2, 1, 1).rooted(0), 0);
        check.due("both into 1", Nets.of(3, 0, 1, 2, 2, 1, 4).rooted(1), 8);
    }

    private static void marked(Check check) {
        check.due("no nodes", new TreeCounts().forests(), 1);
        for (int nodes = 1; nodes <= 10; nodes++) {
            check.due(nodes + " nodes without arcs", Nets.of(nodes).forests(), 1);
        }
        check.due("an arc by 9: none, or it with either node", Nets.of(2, 0, 1, 9).forests(), 19);
        check.due("loops are rings", Nets.of(2, 0, 1, 9, 0, 0, 9, 1, 1, 9).forests(), 19);
        check.due("arcs side by side are a ring", Nets.of(2, 0, 1, 4, 1, 0, 5).forests(), 19);
        check.due("a line of three", Nets.line(3, 1).forests(), 1 + 2 + 2 + 3);
        check.due("a round of three", Nets.round(3, 1).forests(), 1 + 3 * 2 + 3 * 3);
        check.due("ten nodes, 270 between two", Nets.bundle(10, 30, 9).forests(), 541);
    }

    private static void twoParts(Check check) {
        check.due("two nodes without arcs", Nets.of(2).apart(0, 1), 1);
        check.due("two nodes, an arc between them is not in it", Nets.of(2, 0, 1, 9).apart(0, 1), 1);
        check.due("two nodes with loops", Nets.of(2, 0, 0, 9, 1, 1, 9).apart(0, 1), 1);
        check.due("three nodes, one arc, from its end to the other", Nets.of(3, 0, 1, 7).apart(0, 2), 7);
        check.due("three nodes, one arc, its ends", Nets.of(3, 0, 1, 7).apart(0, 1), 0);
        check.due("three nodes without arcs are three parts", Nets.of(3).apart(0, 1), 0);
        check.due("a line of three, its ends", Nets.of(3, 0, 1, 2, 1, 2, 5).apart(0, 2), 7);
        check.due("a line of three, next to each other", Nets.of(3, 0, 1, 2, 1, 2, 5).apart(1, 2), 2);
        check.due("a line of ten, its ends", Nets.line(10, 1).apart(9, 0), 9);
    }

    private static void toldApart(Check check) {
        check.due("a loop by 1", Nets.of(1, 0, 0, 1).tours(), 1);
        check.due("a loop by 2", Nets.of(1, 0, 0, 2).tours(), 1);
        check.due("a loop by 9", Nets.of(1, 0, 0, 9).tours(), 40320);
        check.due("nine loops by 1", Nets.of(1, 0, 0, 3, 0, 0, 5, 0, 0, 1).tours(), 40320);
        check.due("to and fro by 2", Nets.of(2, 0, 1, 2, 1, 0, 2).tours(), 2);
        check.due("to and fro by 2 and by 1 and 1", Nets.of(2, 0, 1, 2, 1, 0, 1, 1, 0, 1).tours(), 2);
        check.due("a round of ten by 1", Nets.round(10, 1).tours(), 1);
        // each node but one sends its last of two on, and what is left of each is one order
        check.due("a round of ten by 2", Nets.round(10, 2).tours(), 512);
    }

    private static void endsWhereItBegan(Check check) {
        check.due("one arc", Nets.of(2, 0, 1, 1).tours(), 0);
        check.due("a line", Nets.line(3, 1).tours(), 0);
        check.due("to by 2 and fro by 1", Nets.of(2, 0, 1, 2, 1, 0, 1).tours(), 0);
        check.due("twice the same way", Nets.of(2, 0, 1, 1, 0, 1, 1).tours(), 0);
        check.due("a round and an arc", Nets.of(3, 0, 1, 1, 1, 2, 1, 2, 0, 1, 0, 2, 1).tours(), 0);
        check.due("two rounds apart", Nets.of(4, 0, 1, 1, 1, 0, 1, 2, 3, 1, 3, 2, 1).tours(), 0);
        check.due("a round and a loop apart", Nets.of(3, 0, 1, 1, 1, 0, 1, 2, 2, 1).tours(), 0);
        check.due("a round and a loop on it", Nets.of(3, 0, 1, 1, 1, 0, 1, 1, 1, 1).tours(), 1);
        check.due("a round, and nodes without arcs", Nets.of(10, 4, 7, 1, 7, 4, 1).tours(), 1);
    }

    private static void oneRound(Check check) {
        for (int nodes = 1; nodes <= 10; nodes++) {
            check.due("a round of " + nodes, Nets.round(nodes, 1).tours(), 1);
        }
        check.due("two rounds through one node", Nets.of(3, 0, 1, 1, 1, 0, 1, 0, 2, 1, 2, 0, 1).tours(), 1);
        check.due("three loops at one node", Nets.of(1, 0, 0, 1, 0, 0, 1, 0, 0, 1).tours(), 2);
    }

    private static void firstTrees(Check check) {
        // the numbers decide, not the weights: arcs 0 and 1 are taken, arc 2 closes a ring
        TreeCounts net = Nets.of(3, 0, 1, 1, 1, 2, 1, 2, 0, 9);
        check.due("ring(0, 0)", net.ring(0, 0), 2);
        net.weigh(0, 9);
        net.weigh(2, 1);
        check.due("ring(0, 0), weighed otherwise", net.ring(0, 0), 2);
        check.due("rings", net.told(3), 1);
        TreeCounts other = Nets.of(3, 2, 0, 9, 0, 1, 1, 1, 2, 1);
        check.due("ring(0, 0) in another order", other.ring(0, 0), 2);
        check.due("a loop first is not taken", Nets.of(2, 0, 0, 1, 0, 1, 1).ring(0, 0), 0);
        check.due("of two side by side the second", Nets.of(2, 0, 1, 1, 0, 1, 1).ring(0, 0), 1);
        check.due("none of the first tree", Nets.line(10, 1).ring(0, 0), -1);
        check.due("rings of a full net", Nets.full(9).told(3), 21);
        check.due("rings of nodes in ten parts", Nets.of(10, 0, 0, 1, 9, 9, 1).told(3), 2);
    }

    private static void ringsWay(Check check) {
        // the arc 3 goes from 3 to 0: from its end 0 along 0, 1, 2 to its beginning 3
        askRing(check, Nets.of(4, 0, 1, 1, 1, 2, 1, 2, 3, 1, 3, 0, 1), 3, 0, 1, 2);
        askRing(check, Nets.of(4, 0, 1, 1, 1, 2, 1, 2, 3, 1, 0, 3, 1), 3, 2, 1, 0);
        askRing(check, Nets.of(4, 1, 0, 1, 2, 1, 1, 3, 2, 1, 0, 3, 1), 3, 2, 1, 0);
        askRing(check, Nets.of(1, 0, 0, 1), 0);
        askRing(check, Nets.of(2, 0, 1, 1, 1, 1, 1), 1);
        askRing(check, Nets.of(2, 0, 1, 1, 1, 0, 1), 1, 0);
        askRing(check, Nets.of(2, 0, 1, 1, 0, 1, 1), 1, 0);
        askRing(check, Nets.of(5, 0, 1, 1, 1, 2, 1, 1, 3, 1, 3, 4, 1, 4, 2, 1), 4, 1, 2, 3);
        askRing(check, Nets.round(10, 1), 9, 0, 1, 2, 3, 4, 5, 6, 7, 8);
    }

    private static void askRing(Check check, TreeCounts net, int... arcs) {
        for (int k = 0; k < arcs.length; k++) {
            check.due("ring(0, " + k + ")", net.ring(0, k), arcs[k]);
        }
        check.due("ring(0, " + arcs.length + ")", net.ring(0, arcs.length), -1);
        check.due("ring(0, -1)", net.ring(0, -1), -1);
        check.due("told(4)", net.told(4), arcs.length);
    }

    /** No node stands out in the group: with each number one further it is the same. */
    private static void groupOfAnyNumbers(Check check) {
        for (int step = 0; step < 4; step++) {
            int[] at = {step % 4, (1 + step) % 4, (2 + step) % 4, (3 + step) % 4};
            TreeCounts net = Nets.of(4, at[0], at[1], 6, at[1], at[2], 4, at[2], at[3], 9, at[3], at[0], 2, at[0], at[2], 2, at[2], at[2], 5);
            // 444 without the arc across and 2 * 10 * 11 with it; all minors of two rows are even
            check.due("group(0), " + step + " further", net.group(0), 2);
            check.due("group(1), " + step + " further", net.group(1), 332);
            check.due("group(2), " + step + " further", net.group(2), -1);
            check.due("trees(), " + step + " further", net.trees(), 664);
        }
    }

    private static void givesToOtherEnds(Check check) {
        // from node 0 two arcs by 2 and 3 to node 1, one by 4 from node 2, and a loop
        TreeCounts net = Nets.of(3, 0, 1, 2, 0, 1, 3, 2, 0, 4, 0, 0, 7);
        net.chips(0, 10);
        check.due("settle(2)", net.settle(2), 2);
        check.due("what is left", net.level(0), 6);
        check.due("what node 1 got and gave back", net.level(1), 0);
        check.due("what node 2 got", net.level(2), 4);
        check.due("firings of node 0", net.fired(0), 1);
        check.due("firings of node 1", net.fired(1), 1);
    }

    private static void loopsGiveNone(Check check) {
        TreeCounts net = Nets.of(2, 0, 1, 5, 1, 1, 9, 0, 0, 9);
        check.due("group(0)", net.group(0), 5);
        check.due("group(1)", net.group(1), -1);
        net.chips(1, 5);
        check.due("settle(0)", net.settle(0), 1);
        check.due("level(1)", net.level(1), 0);
        check.due("level(0)", net.level(0), 5);
        net.chips(1, 4);
        check.due("settle(0), one too few", net.settle(0), 0);
        check.due("recurrent(0)", net.recurrent(0), 1);
        check.due("group(0) of loops alone", Nets.of(1, 0, 0, 9).group(0), -1);
    }

    private static void chainOfRounds(Check check) {
        askChain(check, Nets.line(10, 9), 9, 9, 9, 9, 9, 9, 9, 9, 9);
        askChain(check, Nets.line(10, 1));
        askChain(check, Nets.of(1));
        askChain(check, Nets.of(2, 0, 1, 1));
        askChain(check, Nets.of(2, 0, 1, 2), 2);
        askChain(check, Nets.bundle(2, 30, 9), 270);
        askChain(check, Nets.of(3, 0, 1, 2, 1, 2, 3), 6);
        askChain(check, Nets.of(3, 0, 1, 6, 1, 2, 4), 2, 12);
        askChain(check, Nets.of(4, 0, 1, 6, 1, 2, 4, 2, 3, 9), 6, 36);
        askChain(check, Nets.round(10, 1), 10);
        askChain(check, Nets.round(10, 9), 9, 9, 9, 9, 9, 9, 9, 9, 90);
        askChain(check, Nets.allJoined(8, 9), 9, 72, 72, 72, 72, 72, 72);
        askChain(check, Nets.petersen(), 2, 10, 10, 10);
    }

    private static void askChain(Check check, TreeCounts net, long... rounds) {
        long product = 1;
        for (int k = 0; k < rounds.length; k++) {
            check.due("group(" + k + ")", net.group(k), rounds[k]);
            product *= rounds[k];
        }
        check.due("group(" + rounds.length + ")", net.group(rounds.length), -1);
        check.due("told(5)", net.told(5), rounds.length);
        check.due("the product is THE COUNT", net.trees(), product);
    }

    private static void chipsStay(Check check) {
        TreeCounts net = Nets.of(2, 0, 1, 1);
        for (int k = 0; k < 3; k++) {
            net.chips(0, 200);
            net.settle(1);
        }
        net.chips(0, 200);
        for (int k = 0; k < 9; k++) {
            net.node();
            askLevels(check, "node()", net);
        }
        net.arc(0, 5, 9);
        askLevels(check, "arc()", net);
        net.arc(1, 1, 9);
        askLevels(check, "arc(), a loop", net);
        net.arc(1, 10, 9);
        askLevels(check, "arc() refused", net);
        net.weigh(0, 9);
        askLevels(check, "weigh()", net);
        net.weigh(0, 10);
        askLevels(check, "weigh() refused", net);
        for (int k = 0; k < 4; k++) {
            net.drop();
            askLevels(check, "drop()", net);
        }
        for (int k = 0; k < 31; k++) {
            net.arc(k % 10, (k + 1) % 10, 9);
        }
        askLevels(check, "thirty arcs", net);
    }

    private static void askLevels(Check check, String behind, TreeCounts net) {
        check.due("level(0) behind " + behind, net.level(0), 200);
        check.due("level(1) behind " + behind, net.level(1), 600);
        int nodes = net.told(0);
        for (int node = 2; node < nodes; node++) {
            check.due("level(" + node + ") behind " + behind, net.level(node), 0);
        }
    }
}
