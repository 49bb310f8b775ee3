import java.util.List;

/** The boundaries that promises 1 to 5, 23 and 24 name: how the net is made, told and cleared. */
public final class NetSentencesTest {
    private static final int LEAST = Integer.MIN_VALUE;
    private static final int MOST = Integer.MAX_VALUE;

    public static void main(String[] args) {
        Sentences sentences = new Sentences();
        sentences.ask("1: No NODES, no ARCS.", NetSentencesTest::newObject);
        sentences.ask("2: A NODE: its number", NetSentencesTest::nodeNumbers);
        sentences.ask("2: NONE when there are 10.", NetSentencesTest::tenNodes);
        sentences.ask("3: An ARC: its number", NetSentencesTest::arcNumbers);
        sentences.ask("3: NONE when there is no such NODE", NetSentencesTest::arcWithoutNode);
        sentences.ask("3: weight is not 1 to 9", NetSentencesTest::arcWeight);
        sentences.ask("3: or there are 30", NetSentencesTest::thirtyArcs);
        sentences.ask("4: The WEIGHT of an ARC is another one: what it was", NetSentencesTest::weighs);
        sentences.ask("4: NONE when there is no such ARC", NetSentencesTest::weighsNoArc);
        sentences.ask("4: or weight is not 1 to 9", NetSentencesTest::weighsWrongly);
        sentences.ask("5: The last ARC is gone", NetSentencesTest::lastArcIsGone);
        sentences.ask("5: whether there was one", NetSentencesTest::whetherThereWasOne);
        sentences.ask("23: NODES (what = 0)", NetSentencesTest::toldNodes);
        sentences.ask("23: ARCS (1)", NetSentencesTest::toldArcs);
        sentences.ask("23: parts of the net (2)", NetSentencesTest::toldParts);
        sentences.ask("23: RINGS (3)", NetSentencesTest::toldRings);
        sentences.ask("23: ARCS of RING 0, 0 without (4)", NetSentencesTest::toldFirstRing);
        sentences.ask("23: d's of THE GROUP, 0 when the net is not WHOLE (5)", NetSentencesTest::toldRounds);
        sentences.ask("23: NONE: another what.", NetSentencesTest::toldAnother);
        sentences.ask("24: Nothing, as at first.", NetSentencesTest::clears);
        sentences.end();
    }

    private static void newObject(Check check) {
        askNothing(check, "a new object", new TreeCounts());
        TreeCounts one = Nets.full(9);
        one.chips(0, 200);
        askNothing(check, "a new object beside another one", new TreeCounts());
        check.due("the other one's arcs", one.told(1), 30);
        check.due("the other one's chips", one.level(0), 200);
        TreeCounts first = new TreeCounts();
        TreeCounts second = new TreeCounts();
        check.due("node() of one object", first.node(), 0);
        check.due("node() of another object", second.node(), 0);
        check.due("the other one has one node", second.told(0), 1);
    }

    private static void askNothing(Check check, String name, TreeCounts net) {
        for (int what = 0; what <= 5; what++) {
            check.due(name + ": told(" + what + ")", net.told(what), 0);
        }
        for (int node = 0; node < 10; node++) {
            check.due(name + ": level(" + node + ")", net.level(node), -1);
            check.due(name + ": fired(" + node + ")", net.fired(node), 0);
            check.due(name + ": rooted(" + node + ")", net.rooted(node), -1);
        }
        for (int arc = 0; arc < 30; arc++) {
            check.due(name + ": through(" + arc + ")", net.through(arc), -1);
        }
        check.due(name + ": trees()", net.trees(), 0);
        check.due(name + ": forests()", net.forests(), 1);
        check.due(name + ": tours()", net.tours(), 0);
        check.due(name + ": drawn(0)", net.drawn(0), -1);
        check.due(name + ": place(0)", net.place(0), -1);
        check.due(name + ": ring(0, 0)", net.ring(0, 0), -1);
        check.due(name + ": group(0)", net.group(0), -1);
        check.due(name + ": settle(0)", net.settle(0), -1);
        check.due(name + ": recurrent(0)", net.recurrent(0), -1);
        check.due(name + ": point(5, 7)", net.point(5, 7), 1);
        check.due(name + ": arc(0, 0, 1)", net.arc(0, 0, 1), -1);
        check.due(name + ": chips(0, 0)", net.chips(0, 0), -1);
        check.due(name + ": drop()", net.drop() ? 1 : 0, 0);
    }

    private static void nodeNumbers(Check check) {
        TreeCounts net = new TreeCounts();
        for (int node = 0; node < 10; node++) {
            check.due("node()", net.node(), node);
            // arcs and refusals between do not count
            net.arc(0, node, 1);
            net.arc(0, node + 1, 1);
        }
        check.due("told(0)", net.told(0), 10);
    }

    private static void tenNodes(Check check) {
        TreeCounts net = Nets.of(9);
        check.due("a tenth node()", net.node(), 9);
        check.due("an eleventh node()", net.node(), -1);
        check.due("a twelfth node()", net.node(), -1);
        check.due("told(0)", net.told(0), 10);
        check.due("told(2)", net.told(2), 10);
        check.due("level(9)", net.level(9), 0);
        check.due("level(10)", net.level(10), -1);
        net.clear();
        Nets.addNodes(net, 10);
        check.due("an eleventh node() behind clear()", net.node(), -1);
    }

    private static void arcNumbers(Check check) {
        TreeCounts net = Nets.of(3);
        for (int arc = 0; arc < 30; arc++) {
            check.due("arc", net.arc(arc % 3, arc % 2, 1), arc);
            check.due("arc refused", net.arc(3, 0, 1), -1);
        }
        for (int arc = 29; arc >= 0; arc--) {
            net.drop();
            check.due("the number of the dropped one", net.arc(0, 1, 9), arc);
            net.drop();
        }
        check.due("told(1)", net.told(1), 0);
    }

    private static void arcWithoutNode(Check check) {
        for (int nodes = 0; nodes <= 10; nodes++) {
            TreeCounts net = Nets.of(nodes);
            int arcs = 0;
            for (int node : new int[] {-1, nodes, nodes + 1, LEAST, MOST, -10, 256, 65536}) {
                check.due("arc(" + node + ", 0, 1) of " + nodes, net.arc(node, 0, 1), -1);
                check.due("arc(0, " + node + ", 1) of " + nodes, net.arc(0, node, 1), -1);
                check.due("arc(" + node + ", " + node + ", 1) of " + nodes, net.arc(node, node, 1), -1);
            }
            check.due("told(1)", net.told(1), 0);
            if (nodes > 0) {
                check.due("arc(last, 0, 1)", net.arc(nodes - 1, 0, 1), arcs++);
                check.due("arc(0, last, 1)", net.arc(0, nodes - 1, 1), arcs++);
                check.due("arc(last, last, 1)", net.arc(nodes - 1, nodes - 1, 1), arcs++);
            }
            check.due("told(1)", net.told(1), arcs);
        }
    }

    private static void arcWeight(Check check) {
        TreeCounts net = Nets.of(2);
        int arcs = 0;
        for (int weight = -12; weight <= 22; weight++) {
            boolean fine = weight >= 1 && weight <= 9;
            check.due("arc(0, 1, " + weight + ")", net.arc(0, 1, weight), fine ? arcs++ : -1);
        }
        for (int weight : new int[] {LEAST, MOST, LEAST + 1, MOST - 1, 257, 265, 65537, -255}) {
            check.due("arc(0, 1, " + weight + ")", net.arc(0, 1, weight), -1);
        }
        check.due("told(1)", net.told(1), 9);
        check.due("trees()", net.trees(), 45);
    }

    private static void thirtyArcs(Check check) {
        TreeCounts net = Nets.bundle(10, 29, 9);
        check.due("a thirtieth arc", net.arc(0, 9, 1), 29);
        check.due("a thirty-first arc", net.arc(0, 9, 1), -1);
        check.due("a thirty-first arc, a loop", net.arc(9, 9, 9), -1);
        check.due("told(1)", net.told(1), 30);
        check.due("weigh(29, 2)", net.weigh(29, 2), 1);
        check.due("weigh(30, 2)", net.weigh(30, 2), -1);
        net.drop();
        check.due("the thirtieth again", net.arc(1, 2, 3), 29);
        check.due("a thirty-first again", net.arc(1, 2, 3), -1);
        net.clear();
        Nets.addNodes(net, 1);
        for (int arc = 0; arc < 30; arc++) {
            check.due("arc behind clear()", net.arc(0, 0, 1), arc);
        }
        check.due("a thirty-first behind clear()", net.arc(0, 0, 1), -1);
    }

    private static void weighs(Check check) {
        TreeCounts net = Nets.bundle(2, 30, 5);
        for (int arc = 0; arc < 30; arc++) {
            check.due("weigh(" + arc + ", 9)", net.weigh(arc, 9), 5);
            check.due("weigh(" + arc + ", 1)", net.weigh(arc, 1), 9);
            check.due("weigh(" + arc + ", 1) again", net.weigh(arc, 1), 1);
            check.due("trees()", net.trees(), 5 * (29 - arc) + arc + 1);
        }
        TreeCounts loop = Nets.of(1, 0, 0, 4);
        check.due("weigh of a loop", loop.weigh(0, 5), 4);
        check.due("tours() behind it", loop.tours(), 24);
        loop.drop();
        check.due("an arc in its place", loop.arc(0, 0, 2), 0);
        check.due("weigh, what that was", loop.weigh(0, 9), 2);
        TreeCounts piles = Nets.of(2, 0, 1, 9);
        piles.chips(0, 8);
        check.due("settle(1), one too few", piles.settle(1), 0);
        piles.weigh(0, 8);
        check.due("settle(1), enough", piles.settle(1), 1);
    }

    private static void weighsNoArc(Check check) {
        for (int arcs = 0; arcs <= 30; arcs += 6) {
            TreeCounts net = Nets.bundle(2, arcs, 5);
            for (int arc : new int[] {-1, arcs, arcs + 1, 30, 31, LEAST, MOST, -arcs - 1, 256, 1 << 16}) {
                check.due("weigh(" + arc + ", 1) of " + arcs, net.weigh(arc, 1), -1);
                check.due("weigh(" + arc + ", 0) of " + arcs, net.weigh(arc, 0), -1);
            }
            check.due("trees()", net.trees(), 5 * arcs);
            if (arcs > 0) {
                check.due("weigh(0, 6)", net.weigh(0, 6), 5);
                check.due("weigh(last, 6)", net.weigh(arcs - 1, 6), 5);
                net.drop();
                check.due("weigh of a dropped one", net.weigh(arcs - 1, 7), -1);
            }
        }
    }

    private static void weighsWrongly(Check check) {
        TreeCounts net = Nets.of(2, 0, 1, 5, 1, 0, 6);
        for (int weight = -12; weight <= 22; weight++) {
            boolean fine = weight >= 1 && weight <= 9;
            check.due("weigh(0, " + weight + ")", net.weigh(0, weight), fine ? 5 : -1);
            check.due("trees() behind it", net.trees(), fine ? weight + 6 : 11);
            net.weigh(0, 5);
        }
        for (int weight : new int[] {LEAST, MOST, LEAST + 1, MOST - 1, 257, 265, 65537, -255}) {
            check.due("weigh(1, " + weight + ")", net.weigh(1, weight), -1);
        }
        check.due("what it still was", net.weigh(1, 9), 6);
    }

    private static void lastArcIsGone(Check check) {
        for (int arcs = 1; arcs <= 30; arcs++) {
            TreeCounts net = Nets.full(2);
            for (int arc = 30; arc > arcs; arc--) {
                net.drop();
            }
            TreeCounts twin = Nets.of(10);
            for (int k = 0; k < arcs; k++) {
                twin.arc(k % 10, (k + (k < 10 ? 1 : k < 20 ? 3 : 4)) % 10, 2);
            }
            State.same(check, arcs + " arcs left", net, State.of(twin));
        }
        TreeCounts bridge = Nets.of(3, 0, 1, 2, 1, 2, 3);
        bridge.drop();
        check.due("trees() without the last one", bridge.trees(), 0);
        check.due("through(0)", bridge.through(0), 0);
        check.due("through(1)", bridge.through(1), -1);
        check.due("what arc 0 weighs", bridge.weigh(0, 1), 2);
    }

    private static void whetherThereWasOne(Check check) {
        check.holds("drop() without nodes", !new TreeCounts().drop());
        check.holds("drop() without arcs", !Nets.of(10).drop());
        TreeCounts net = Nets.full(9);
        for (int arc = 30; arc > 0; arc--) {
            check.holds("drop() of " + arc, net.drop());
            check.due("told(1)", net.told(1), arc - 1);
        }
        check.holds("drop() of none", !net.drop());
        check.holds("drop() of none again", !net.drop());
        check.due("told(0)", net.told(0), 10);
        check.due("told(1)", net.told(1), 0);
        check.due("arc()", net.arc(0, 1, 1), 0);
        check.holds("drop() of a loop", Nets.of(1, 0, 0, 1).drop());
    }

    private static void toldNodes(Check check) {
        for (int nodes = 0; nodes <= 10; nodes++) {
            check.due("told(0) of " + nodes, Nets.of(nodes).told(0), nodes);
        }
    }

    private static void toldArcs(Check check) {
        for (int arcs = 0; arcs <= 30; arcs++) {
            check.due("told(1) of " + arcs, Nets.bundle(10, arcs, 1).told(1), arcs);
        }
    }

    private static void toldParts(Check check) {
        for (int nodes = 0; nodes <= 10; nodes++) {
            check.due("parts of nodes without arcs", Nets.of(nodes).told(2), nodes);
            check.due("parts of a line", Nets.line(nodes, 1).told(2), Math.min(nodes, 1));
        }
        check.due("parts of loops", Nets.of(3, 0, 0, 1, 1, 1, 1).told(2), 3);
        check.due("parts of a bundle and nodes aside", Nets.bundle(10, 30, 1).told(2), 9);
        check.due("parts of two rounds", Nets.of(4, 0, 1, 1, 1, 0, 1, 2, 3, 1, 3, 2, 1).told(2), 2);
        check.due("parts joined at the end", Nets.of(4, 2, 3, 1, 0, 1, 1, 3, 0, 1).told(2), 1);
        check.due("parts of arcs against each other", Nets.of(3, 0, 1, 1, 2, 1, 1).told(2), 1);
    }

    private static void toldRings(Check check) {
        check.due("rings of nothing", new TreeCounts().told(3), 0);
        check.due("rings of a line", Nets.line(10, 1).told(3), 0);
        check.due("rings of a round", Nets.round(10, 1).told(3), 1);
        check.due("rings of a loop", Nets.of(1, 0, 0, 1).told(3), 1);
        check.due("rings of 30 arcs side by side", Nets.bundle(2, 30, 1).told(3), 29);
        check.due("rings of 30 arcs and nodes aside", Nets.bundle(10, 30, 1).told(3), 29);
        TreeCounts loops = Nets.of(10);
        for (int k = 0; k < 30; k++) {
            loops.arc(k % 10, k % 10, 1);
        }
        check.due("rings of 30 loops", loops.told(3), 30);
        check.due("the last of them", loops.ring(29, 0), 29);
        check.due("behind the last of them", loops.ring(30, 0), -1);
    }

    private static void toldFirstRing(Check check) {
        check.due("ring 0 of nothing", new TreeCounts().told(4), 0);
        check.due("ring 0 of nodes", Nets.of(10).told(4), 0);
        check.due("ring 0 of a line", Nets.line(10, 1).told(4), 0);
        for (int nodes = 1; nodes <= 10; nodes++) {
            check.due("ring 0 of a round of " + nodes, Nets.round(nodes, 9).told(4), nodes);
        }
        check.due("of ring 0, not of ring 1", Nets.of(3, 0, 1, 1, 1, 1, 1, 1, 2, 1, 2, 0, 1).told(4), 1);
        TreeCounts net = Nets.of(2, 0, 1, 1, 1, 0, 1);
        check.due("ring 0 of two arcs", net.told(4), 2);
        net.drop();
        check.due("ring 0, its arc dropped", net.told(4), 0);
    }

    private static void toldRounds(Check check) {
        check.due("of nothing", new TreeCounts().told(5), 0);
        check.due("of one node", Nets.of(1).told(5), 0);
        check.due("of a line by 1", Nets.line(10, 1).told(5), 0);
        check.due("of a line by 2", Nets.line(10, 2).told(5), 9);
        check.due("of an arc by 2", Nets.of(2, 0, 1, 2).told(5), 1);
        check.due("of a full net by 9", Nets.full(9).told(5), 9);
        TreeCounts aside = Nets.of(3, 0, 1, 9, 1, 2, 9);
        check.due("whole", aside.told(5), 2);
        aside.drop();
        check.due("not whole", aside.told(5), 0);
        check.due("of two nodes without arcs", Nets.of(2).told(5), 0);
        check.due("of ten nodes, a bundle", Nets.bundle(10, 30, 9).told(5), 0);
    }

    private static void toldAnother(Check check) {
        for (TreeCounts net : List.of(new TreeCounts(), Nets.of(1), Nets.full(9), Nets.bundle(10, 30, 9))) {
            for (int what : new int[] {-1, 6, 7, -2, 10, 30, LEAST, MOST, LEAST + 1, MOST - 1, 256, 1 << 16}) {
                check.due("told(" + what + ")", net.told(what), -1);
            }
            for (int what = 0; what <= 5; what++) {
                check.holds("told(" + what + ") is not NONE", net.told(what) >= 0);
            }
        }
    }

    private static void clears(Check check) {
        TreeCounts twice = new TreeCounts();
        twice.clear();
        askNothing(check, "a new object, cleared", twice);
        TreeCounts net = busy();
        net.clear();
        askNothing(check, "a cleared net", net);
        TreeCounts again = busy();
        again.clear();
        again.clear();
        State.same(check, "cleared twice", again, State.of(new TreeCounts()));
        TreeCounts refilled = busy();
        refilled.clear();
        Nets.addNodes(refilled, 10);
        State.same(check, "nodes behind clear()", refilled, State.of(Nets.of(10)));
        TreeCounts joined = busy();
        joined.clear();
        Nets.addNodes(joined, 3);
        joined.arc(0, 1, 2);
        joined.arc(1, 2, 3);
        State.same(check, "nodes and arcs behind clear()", joined, State.of(Nets.of(3, 0, 1, 2, 1, 2, 3)));
        TreeCounts many = busy();
        check.due("point() throws", Nets.pointThrows(many, 1, 1), 1);
        many.clear();
        check.due("point() throws behind clear()", Nets.pointThrows(many, 1, 1), 0);
    }

    /** A full net with chips on all nodes and firings of all but one. */
    private static TreeCounts busy() {
        TreeCounts net = Nets.full(9);
        for (int node = 0; node < 10; node++) {
            net.chips(node, 200);
        }
        net.settle(4);
        for (int node = 0; node < 10; node++) {
            net.chips(node, 100 + node);
        }
        return net;
    }
}
