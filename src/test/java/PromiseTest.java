/** Each promise of the document by itself: ordinary inputs, the edges it names, and wrong inputs. */
public final class PromiseTest {
    private static final Check CHECK = new Check();
    private static final int[] WRONG = {-1, Integer.MIN_VALUE, Integer.MAX_VALUE, 10, 30, 31, 32, 33, -2, -31, -32};

    private static void due(String call, long got, long want) {
        CHECK.due(call, got, want);
    }

    public static void main(String[] args) {
        newObject();
        node();
        arc();
        weigh();
        drop();
        trees();
        through();
        rooted();
        forests();
        apart();
        resistance();
        tours();
        drawn();
        place();
        ring();
        group();
        chips();
        level();
        settle();
        fired();
        recurrent();
        point();
        told();
        clear();
        refusalsChangeNothing();
        chipsStayWhenTheNetChanges();
        CHECK.end();
    }

    private static void askEmpty(TreeCounts net) {
        for (int what = 0; what <= 5; what++) {
            due("told(" + what + ") of nothing", net.told(what), 0);
        }
        due("trees() of nothing", net.trees(), 0);
        due("through(0) of nothing", net.through(0), -1);
        due("rooted(0) of nothing", net.rooted(0), -1);
        due("forests() of nothing", net.forests(), 1);
        due("apart(0, 1) of nothing", net.apart(0, 1), 0);
        due("apart(0, 0) of nothing", net.apart(0, 0), 0);
        due("resistance(0, 0, 0) of nothing", net.resistance(0, 0, 0), -1);
        due("tours() of nothing", net.tours(), 0);
        due("drawn(0) of nothing", net.drawn(0), -1);
        due("place(0) of nothing", net.place(0), -1);
        due("ring(0, 0) of nothing", net.ring(0, 0), -1);
        due("group(0) of nothing", net.group(0), -1);
        due("chips(0, 1) of nothing", net.chips(0, 1), -1);
        due("level(0) of nothing", net.level(0), -1);
        due("settle(0) of nothing", net.settle(0), -1);
        due("fired(0) of nothing", net.fired(0), 0);
        due("recurrent(0) of nothing", net.recurrent(0), -1);
        due("point(7, 9) of nothing", net.point(7, 9), 1);
        due("arc(0, 0, 1) of nothing", net.arc(0, 0, 1), -1);
        due("weigh(0, 1) of nothing", net.weigh(0, 1), -1);
        due("drop() of nothing", net.drop() ? 1 : 0, 0);
    }

    private static void newObject() {
        askEmpty(new TreeCounts());
        TreeCounts one = Nets.of(2, 0, 1, 5);
        askEmpty(new TreeCounts());
        due("another object's trees()", one.trees(), 5);
    }

    private static void node() {
        TreeCounts net = Nets.of(10);
        due("an eleventh node()", net.node(), -1);
        due("told(0) behind it", net.told(0), 10);
        due("arc(9, 9, 1)", net.arc(9, 9, 1), 0);
        due("a node() with an arc there", net.node(), -1);
    }

    private static void arc() {
        TreeCounts net = Nets.of(2);
        for (int wrong : WRONG) {
            due("arc(" + wrong + ", 0, 1)", net.arc(wrong, 0, 1), -1);
            due("arc(0, " + wrong + ", 1)", net.arc(0, wrong, 1), -1);
            due("arc(0, 1, " + wrong + ")", net.arc(0, 1, wrong), -1);
        }
        due("arc(0, 2, 1)", net.arc(0, 2, 1), -1);
        due("arc(2, 0, 1)", net.arc(2, 0, 1), -1);
        due("arc(0, 1, 0)", net.arc(0, 1, 0), -1);
        due("told(1) behind refusals", net.told(1), 0);
        for (int k = 0; k < 30; k++) {
            due("arc " + k, net.arc(k % 2, k % 3 == 0 ? 0 : 1, 1 + k % 9), k);
        }
        due("a thirty-first arc", net.arc(0, 1, 1), -1);
        due("told(1)", net.told(1), 30);
        net.drop();
        due("the thirtieth again", net.arc(0, 1, 9), 29);
    }

    private static void weigh() {
        TreeCounts net = Nets.of(2, 0, 1, 3, 1, 0, 4);
        due("weigh(0, 9)", net.weigh(0, 9), 3);
        due("weigh(0, 1)", net.weigh(0, 1), 9);
        due("weigh(1, 1)", net.weigh(1, 1), 4);
        due("trees() behind it", net.trees(), 2);
        due("weigh(0, 0)", net.weigh(0, 0), -1);
        due("weigh(0, 10)", net.weigh(0, 10), -1);
        due("weigh(2, 1)", net.weigh(2, 1), -1);
        for (int wrong : WRONG) {
            due("weigh(" + wrong + ", 1)", net.weigh(wrong, 1), -1);
            due("weigh(0, " + wrong + ")", net.weigh(0, wrong), -1);
        }
        due("trees() behind refusals", net.trees(), 2);
        net.drop();
        due("weigh of a dropped arc", net.weigh(1, 5), -1);
        due("arc(0, 1, 7)", net.arc(0, 1, 7), 1);
        due("weigh(1, 7)", net.weigh(1, 7), 7);
    }

    private static void drop() {
        TreeCounts net = Nets.of(3, 0, 1, 2, 1, 2, 3, 2, 0, 4);
        due("drop()", net.drop() ? 1 : 0, 1);
        due("trees() without arc 2", net.trees(), 6);
        due("drop()", net.drop() ? 1 : 0, 1);
        due("drop()", net.drop() ? 1 : 0, 1);
        due("drop() without arcs", net.drop() ? 1 : 0, 0);
        due("told(0)", net.told(0), 3);
        due("told(1)", net.told(1), 0);
    }

    private static void trees() {
        due("trees() of one node", Nets.of(1).trees(), 1);
        due("trees() of a node with a loop", Nets.of(1, 0, 0, 9).trees(), 1);
        due("trees() of two nodes", Nets.of(2).trees(), 0);
        due("trees() of four nodes, all joined", Nets.allJoined(4, 1).trees(), 16);
        due("trees() of seven nodes, all joined", Nets.allJoined(7, 1).trees(), 16807);
        due("trees() of eight nodes by weights 9", Nets.allJoined(8, 9).trees(), 262144L * 4782969L);
        due("trees() of Petersen's net", Nets.petersen().trees(), 2000);
        due("trees() of arcs side by side", Nets.of(2, 0, 1, 2, 1, 0, 3, 0, 0, 5).trees(), 5);
        due("trees() of two parts", Nets.of(4, 0, 1, 2, 2, 3, 3).trees(), 0);
    }

    private static void through() {
        TreeCounts net = Nets.of(3, 0, 1, 2, 1, 2, 3, 2, 0, 4, 1, 1, 5);
        due("through(0)", net.through(0), 14);
        due("through(1)", net.through(1), 18);
        due("through(2)", net.through(2), 20);
        due("through(a loop)", net.through(3), 0);
        due("through(4)", net.through(4), -1);
        for (int wrong : WRONG) {
            due("through(" + wrong + ")", net.through(wrong), -1);
        }
        due("through() of a net that is not whole", Nets.of(3, 0, 1, 2).through(0), 0);
        due("through() of a bridge", Nets.of(2, 0, 1, 7).through(0), 7);
        due("through() of Petersen's net", Nets.petersen().through(14), 1200);
    }

    private static void rooted() {
        TreeCounts net = Nets.of(3, 0, 1, 2, 1, 2, 3, 2, 0, 4, 0, 2, 5, 1, 1, 9);
        due("rooted(0)", net.rooted(0), 12);
        due("rooted(1)", net.rooted(1), 2 * 4);
        due("rooted(2)", net.rooted(2), 2 * 3 + 5 * 3);
        due("rooted(3)", net.rooted(3), -1);
        for (int wrong : WRONG) {
            due("rooted(" + wrong + ")", net.rooted(wrong), -1);
        }
        due("rooted() of one node", Nets.of(1, 0, 0, 3).rooted(0), 1);
        due("rooted() of two nodes apart", Nets.of(2).rooted(1), 0);
        due("rooted() along the arc", Nets.of(2, 0, 1, 6).rooted(1), 6);
        due("rooted() against the arc", Nets.of(2, 0, 1, 6).rooted(0), 0);
    }

    private static void forests() {
        due("forests() of one node", Nets.of(1, 0, 0, 4).forests(), 1);
        due("forests() of two nodes", Nets.of(2).forests(), 1);
        due("forests() of an arc", Nets.of(2, 0, 1, 3).forests(), 1 + 2 * 3);
        due("forests() of four nodes, all joined", Nets.allJoined(4, 1).forests(), 125);
        due("forests() of two parts", Nets.of(4, 0, 1, 3, 2, 3, 1).forests(), 7 * 3);
    }

    private static void apart() {
        TreeCounts net = Nets.of(3, 0, 1, 2, 1, 2, 3, 2, 0, 4);
        due("apart(0, 1)", net.apart(0, 1), 7);
        due("apart(1, 0)", net.apart(1, 0), 7);
        due("apart(1, 2)", net.apart(1, 2), 6);
        due("apart(2, 2)", net.apart(2, 2), 0);
        due("apart(0, 3)", net.apart(0, 3), 0);
        for (int wrong : WRONG) {
            due("apart(" + wrong + ", 0)", net.apart(wrong, 0), 0);
            due("apart(0, " + wrong + ")", net.apart(0, wrong), 0);
        }
        due("apart() of two nodes without arcs", Nets.of(2).apart(0, 1), 1);
        TreeCounts two = Nets.of(4, 0, 1, 2, 2, 3, 3);
        due("apart() in two parts", two.apart(0, 3), 6);
        due("apart() in one of two parts", two.apart(0, 1), 0);
        due("apart() in three parts", Nets.of(5, 0, 1, 2, 2, 3, 3).apart(0, 3), 0);
    }

    private static void resistance() {
        TreeCounts net = Nets.petersen();
        due("resistance of neighbours, top", net.resistance(0, 1, 0), 3);
        due("resistance of neighbours, bottom", net.resistance(0, 1, 1), 5);
        due("resistance of others, top", net.resistance(0, 2, 0), 4);
        due("resistance of others, bottom", net.resistance(0, 2, 1), 5);
        due("resistance of one node, top", net.resistance(3, 3, 0), 0);
        due("resistance of one node, bottom", net.resistance(3, 3, 1), 1);
        due("resistance, side 2", net.resistance(0, 1, 2), -1);
        due("resistance, side -1", net.resistance(0, 1, -1), -1);
        for (int wrong : WRONG) {
            due("resistance(" + wrong + ", 0, 0)", net.resistance(wrong, 0, 0), -1);
            due("resistance(0, " + wrong + ", 1)", net.resistance(0, wrong, 1), -1);
            due("resistance(" + wrong + ", " + wrong + ", 1)", net.resistance(wrong, wrong, 1), -1);
            due("resistance(0, 1, " + wrong + ")", net.resistance(0, 1, wrong), -1);
        }
        TreeCounts two = Nets.of(3, 0, 1, 2);
        due("resistance in a net that is not whole", two.resistance(0, 1, 0), -1);
        due("resistance of one node there", two.resistance(0, 0, 1), -1);
        due("resistance of the only node", Nets.of(1).resistance(0, 0, 1), 1);
        due("resistance along an arc", Nets.of(2, 0, 1, 9).resistance(0, 1, 1), 9);
    }

    private static void tours() {
        due("tours() of nodes alone", Nets.of(3).tours(), 0);
        due("tours() of a loop", Nets.of(1, 0, 0, 1).tours(), 1);
        due("tours() of a loop by 4", Nets.of(3, 1, 1, 4).tours(), 6);
        due("tours() of a round, a node aside", Nets.of(4, 1, 2, 1, 2, 3, 1, 3, 1, 1).tours(), 1);
        due("tours() of two rounds apart", Nets.of(4, 0, 1, 1, 1, 0, 1, 2, 3, 1, 3, 2, 1).tours(), 0);
        due("tours() of two loops apart", Nets.of(2, 0, 0, 1, 1, 1, 1).tours(), 0);
        due("tours() of an arc", Nets.of(2, 0, 1, 1).tours(), 0);
        due("tours() to and fro by 3", Nets.of(2, 0, 1, 3, 1, 0, 3).tours(), 3 * 2 * 2);
        due("tours() the same way", Nets.of(2, 0, 1, 1, 0, 1, 1).tours(), 0);
        TreeCounts loops = Nets.of(1, 0, 0, 9, 0, 0, 9, 0, 0, 4);
        due("tours() of 22 loops, wrapping", loops.tours(), -4249290049419214848L);
        for (int k = 0; k < 20; k++) {
            loops.arc(0, 0, 9);
        }
        due("tours() of 202 loops, wrapping", loops.tours(), 0);
    }

    private static void drawn() {
        TreeCounts net = Nets.of(3, 0, 1, 2, 1, 2, 1, 2, 0, 3, 0, 0, 9);
        int[] row = {3, 3, 5, 5, 5, 5, 5, 5, 6, 6, 6};
        for (int place = 0; place < row.length; place++) {
            due("drawn(" + place + ")", net.drawn(place), row[place]);
        }
        due("drawn(11)", net.drawn(11), -1);
        due("drawn(-1)", net.drawn(-1), -1);
        due("drawn(most)", net.drawn(Long.MAX_VALUE), -1);
        due("drawn(least)", net.drawn(Long.MIN_VALUE), -1);
        due("drawn(2^32)", net.drawn(1L << 32), -1);
        due("drawn(0) of a node with a loop", Nets.of(1, 0, 0, 5).drawn(0), 0);
        due("drawn(1) of a node with a loop", Nets.of(1, 0, 0, 5).drawn(1), -1);
        due("drawn(0) of two parts", Nets.of(2, 0, 0, 5).drawn(0), -1);
        TreeCounts full = Nets.of(2);
        for (int k = 0; k < 30; k++) {
            full.arc(0, k == 29 ? 1 : 0, 9);
        }
        due("drawn(8) with arc 29", full.drawn(8), 1 << 29);
    }

    private static void place() {
        TreeCounts net = Nets.of(3, 0, 1, 2, 1, 2, 1, 2, 0, 3, 0, 0, 9);
        due("place(3)", net.place(3), 0);
        due("place(5)", net.place(5), 2);
        due("place(6)", net.place(6), 8);
        for (int none : new int[] {0, 1, 2, 4, 7, 8, 9, 10, 11, 12, 14, 15, 16, 19, 35, 3 + (1 << 30), -1, 3 + (1 << 31), Integer.MAX_VALUE}) {
            due("place(" + none + ")", net.place(none), -1);
        }
        due("place(0) of one node", Nets.of(1).place(0), 0);
        due("place(0) of a node with a loop", Nets.of(1, 0, 0, 5).place(0), 0);
        due("place(1) of a node with a loop", Nets.of(1, 0, 0, 5).place(1), -1);
        due("place(0) of two nodes", Nets.of(2).place(0), -1);
        TreeCounts full = Nets.of(2);
        for (int k = 0; k < 30; k++) {
            full.arc(0, k < 28 ? 0 : 1, 9);
        }
        due("place of arc 29", full.place(1 << 29), 9);
        due("place of arc 30", full.place(1 << 30), -1);
        due("place of arc 31", full.place(1 << 31), -1);
    }

    private static void ring() {
        TreeCounts net = Nets.of(5, 0, 1, 2, 2, 1, 1, 1, 1, 3, 2, 0, 3, 3, 2, 1, 0, 3, 9, 3, 0, 1);
        int[][] rings = {{2}, {3, 0, 1}, {5, 4, 1, 0}, {6, 0, 1, 4}};
        for (int ring = 0; ring < rings.length; ring++) {
            for (int k = 0; k < rings[ring].length; k++) {
                due("ring(" + ring + ", " + k + ")", net.ring(ring, k), rings[ring][k]);
            }
            due("ring(" + ring + ") behind its last arc", net.ring(ring, rings[ring].length), -1);
        }
        due("ring(4, 0)", net.ring(4, 0), -1);
        for (int wrong : WRONG) {
            due("ring(" + wrong + ", 0)", net.ring(wrong, 0), -1);
            due("ring(0, " + wrong + ")", net.ring(0, wrong), -1);
        }
        TreeCounts round = Nets.of(10);
        for (int k = 0; k < 10; k++) {
            round.arc(k, (k + 1) % 10, 1);
        }
        for (int k = 0; k < 10; k++) {
            due("ring(0, " + k + ") of ten", round.ring(0, k), (k + 9) % 10);
        }
        due("ring(0, 10) of ten", round.ring(0, 10), -1);
    }

    private static void group() {
        long[] rounds = {2, 10, 10, 10};
        TreeCounts net = Nets.petersen();
        for (int k = 0; k < rounds.length; k++) {
            due("group(" + k + ") of Petersen's net", net.group(k), rounds[k]);
        }
        due("group(4) of Petersen's net", net.group(4), -1);
        for (int wrong : WRONG) {
            due("group(" + wrong + ")", net.group(wrong), -1);
        }
        TreeCounts six = Nets.allJoined(6, 9);
        for (int k = 0; k < 5; k++) {
            due("group(" + k + ") of six nodes by 9", six.group(k), k == 0 ? 9 : 54);
        }
        due("group(5) of six nodes by 9", six.group(5), -1);
        due("group(0) of arcs by 2 and 3", Nets.of(3, 0, 1, 2, 1, 2, 3).group(0), 6);
        due("group(1) of arcs by 2 and 3", Nets.of(3, 0, 1, 2, 1, 2, 3).group(1), -1);
        due("group(0) of arcs by 6 and 4", Nets.of(3, 0, 1, 6, 1, 2, 4).group(0), 2);
        due("group(1) of arcs by 6 and 4", Nets.of(3, 0, 1, 6, 1, 2, 4).group(1), 12);
        due("group(0) of one node", Nets.of(1, 0, 0, 7).group(0), -1);
        due("group(0) of a tree", Nets.of(2, 0, 1, 1).group(0), -1);
        due("group(0) of two parts", Nets.of(3, 0, 1, 5).group(0), -1);
    }

    private static void chips() {
        TreeCounts net = Nets.of(2);
        due("chips(0, 200)", net.chips(0, 200), 0);
        due("chips(0, 0)", net.chips(0, 0), 200);
        due("chips(0, 7)", net.chips(0, 7), 0);
        due("chips(0, 201)", net.chips(0, 201), -1);
        due("chips(0, -1)", net.chips(0, -1), -1);
        due("chips(2, 1)", net.chips(2, 1), -1);
        due("chips(-1, 1)", net.chips(-1, 1), -1);
        due("chips(most, 1)", net.chips(Integer.MAX_VALUE, 1), -1);
        due("chips(1, most)", net.chips(1, Integer.MAX_VALUE), -1);
        due("chips(1, 3)", net.chips(1, 3), 0);
        due("level(0)", net.level(0), 7);
    }

    private static void level() {
        TreeCounts net = Nets.of(2, 0, 1, 1);
        due("level(0) at first", net.level(0), 0);
        for (int k = 0; k < 5; k++) {
            net.chips(0, 200);
            due("settle(1)", net.settle(1), 200);
        }
        due("level(1), above 200", net.level(1), 1000);
        due("chips(1, 5), what it had", net.chips(1, 5), 1000);
        due("level(1)", net.level(1), 5);
        for (int wrong : WRONG) {
            due("level(" + wrong + ")", net.level(wrong), -1);
        }
        due("level(2)", net.level(2), -1);
    }

    private static void settle() {
        due("settle(0) of one node", Nets.of(1, 0, 0, 2).settle(0), 0);
        TreeCounts net = Nets.of(3, 0, 1, 2, 1, 2, 1, 1, 1, 9);
        net.chips(1, 3);
        due("settle(2), with a loop that counts not", net.settle(2), 2);
        due("level(0)", net.level(0), 0);
        due("level(1)", net.level(1), 2);
        due("level(2)", net.level(2), 1);
        due("settle(2), settled", net.settle(2), 0);
        due("fired(1) of that", net.fired(1), 0);
        net.chips(2, 200);
        due("settle(2), the sink fires not", net.settle(2), 0);
        due("settle(3)", net.settle(3), -1);
        for (int wrong : WRONG) {
            due("settle(" + wrong + ")", net.settle(wrong), -1);
        }
        net.node();
        due("settle(0) of a net that is not whole", net.settle(0), -1);
        due("level(2) behind it", net.level(2), 200);
        settleFarChips();
    }

    /** As many chips as calls can bring, at the far end of a long way behind heavy arcs. */
    private static void settleFarChips() {
        TreeCounts net = Nets.of(10);
        for (int k = 0; k < 30; k++) {
            net.arc(k < 9 ? k : 0, k < 9 ? k + 1 : 1, k == 0 || k > 8 ? 9 : 1);
        }
        long all = 0;
        // 40 calls so far, 390 here and 82 below: an object is used for 512
        for (int turn = 0; turn < 39; turn++) {
            for (int node = 1; node < 10; node++) {
                all += 200 - net.chips(node, 200);
            }
            net.settle(0);
        }
        for (int turn = 0; turn < 6; turn++) {
            int sink = turn % 2 == 0 ? 9 : 0;
            long firings = net.settle(sink);
            CHECK.holds("many firings", firings > 1000000);
            long sum = 0;
            for (int node = 0; node < 10; node++) {
                long level = net.level(node);
                sum += level;
                firings -= turn < 5 ? 0 : net.fired(node);
                int degree = node == 0 ? 198 : node == 1 ? 199 : node == 9 ? 1 : 2;
                CHECK.holds("node " + node + " is settled", level >= 0 && (node == sink || level < degree));
            }
            due("no chip is lost", sum, all);
            due("the sink's firings", net.fired(sink), 0);
            due("firings that no node has", turn < 5 ? 0 : firings, 0);
        }
    }

    private static void fired() {
        TreeCounts net = Nets.of(3, 0, 1, 1, 1, 2, 1);
        due("fired(0) before", net.fired(0), 0);
        net.chips(0, 4);
        due("settle(2)", net.settle(2), 10);
        due("fired(0)", net.fired(0), 7);
        due("fired(1)", net.fired(1), 3);
        due("fired(2)", net.fired(2), 0);
        due("settle(9)", net.settle(9), -1);
        due("fired(0), settle() was NONE", net.fired(0), 7);
        due("recurrent(2)", net.recurrent(2), 1);
        due("fired(0), it was asked only", net.fired(0), 7);
        due("fired(3)", net.fired(3), 0);
        for (int wrong : WRONG) {
            due("fired(" + wrong + ")", net.fired(wrong), 0);
        }
        net.node();
        due("fired(a new node)", net.fired(3), 0);
        due("settle(0), not whole", net.settle(0), -1);
        due("fired(1), it was NONE again", net.fired(1), 3);
        net.arc(2, 3, 1);
        due("settle(3)", net.settle(3), 6);
        due("fired(0) of the latest", net.fired(0), 2);
        due("fired(2) of the latest", net.fired(2), 2);
    }

    private static void recurrent() {
        due("recurrent(0) of one node", Nets.of(1).recurrent(0), 1);
        TreeCounts net = Nets.of(3, 0, 1, 1, 1, 2, 1, 2, 0, 1, 1, 1, 5);
        for (int one = 0; one < 3; one++) {
            for (int other = 0; other < 3; other++) {
                net.chips(0, one);
                net.chips(1, other);
                net.chips(2, 200);
                boolean back = one < 2 && other < 2 && one + other > 0;
                due("recurrent(2) of " + one + ", " + other, net.recurrent(2), back ? 1 : 0);
                due("level(0) behind it", net.level(0), one);
                due("level(2) behind it", net.level(2), 200);
            }
        }
        due("recurrent(0), node 2 could fire", net.recurrent(0), 0);
        due("recurrent(3)", net.recurrent(3), -1);
        for (int wrong : WRONG) {
            due("recurrent(" + wrong + ")", net.recurrent(wrong), -1);
        }
        net.node();
        due("recurrent(2), not whole", net.recurrent(2), -1);
        askAllOfThem();
    }

    /** As many chips come back as there are trees. */
    private static void askAllOfThem() {
        TreeCounts net = Nets.of(4, 0, 1, 2, 1, 2, 1, 2, 3, 1, 3, 0, 2, 0, 2, 1);
        long trees = net.trees();
        long back = 0;
        for (int a = 0; a < 5; a++) {
            for (int b = 0; b < 4; b++) {
                for (int c = 0; c < 4; c++) {
                    net.chips(0, a);
                    net.chips(1, b);
                    net.chips(2, c);
                    back += net.recurrent(3);
                }
            }
        }
        due("how many come back", back, trees);
    }

    private static void point() {
        TreeCounts net = Nets.allJoined(4, 9);
        long[][] dues = {{1, 1, 16}, {2, 1, 38}, {1, 2, 38}, {2, 2, 64}, {2, 0, 24}, {0, 2, 24}, {-2, 0, 0}, {-3, 0, -6}, {0, 0, 0}};
        for (long[] each : dues) {
            due("point(" + each[0] + ", " + each[1] + ")", net.point(each[0], each[1]), each[2]);
        }
        due("point(least, 3) of an arc", Nets.of(2, 0, 1, 2).point(Long.MIN_VALUE, 3), Long.MIN_VALUE);
        due("point(3, least) of a loop", Nets.of(2, 0, 0, 2).point(3, Long.MIN_VALUE), Long.MIN_VALUE);
        due("point(1, 1) of two loops", Nets.of(2, 0, 0, 2, 1, 1, 1).point(1, 1), 1);
        due("point(5, 7) without arcs", Nets.of(3).point(5, 7), 1);
        due("point(2^40, 0) of two arcs, wrapping", Nets.of(3, 0, 1, 1, 1, 2, 1).point(1L << 40, 0), 0);
        TreeCounts many = Nets.petersen();
        due("point() of 15 arcs throws", Nets.pointThrows(many, 1, 1), 1);
        many.drop();
        due("point() of 14 arcs throws not", Nets.pointThrows(many, 1, 1), 0);
        due("point(1, 1) of 14 arcs", many.point(1, 1), many.trees());
        due("point(2, 2) of 14 arcs", many.point(2, 2), 1 << 14);
        TreeCounts loops = Nets.of(1);
        for (int k = 0; k < 14; k++) {
            loops.arc(0, 0, 3);
        }
        due("point(0, -3) of 14 loops", loops.point(0, -3), 4782969);
        loops.arc(0, 0, 1);
        due("point() of 15 loops throws", Nets.pointThrows(loops, 1, 1), 1);
    }

    private static void told() {
        TreeCounts net = Nets.of(5, 0, 1, 2, 1, 0, 2, 2, 3, 1, 3, 3, 4);
        long[] dues = {5, 4, 3, 2, 2, 0};
        for (int what = 0; what < dues.length; what++) {
            due("told(" + what + ")", net.told(what), dues[what]);
        }
        due("told(6)", net.told(6), -1);
        for (int wrong : WRONG) {
            due("told(" + wrong + ")", net.told(wrong), -1);
        }
        due("told(5) of Petersen's net", Nets.petersen().told(5), 4);
        due("told(2) of Petersen's net", Nets.petersen().told(2), 1);
        due("told(3) of Petersen's net", Nets.petersen().told(3), 6);
        due("told(4) without rings", Nets.of(2, 0, 1, 1).told(4), 0);
        due("told(4) of a loop", Nets.of(2, 0, 1, 1, 1, 1, 1).told(4), 1);
        due("told(5) of one node", Nets.of(1).told(5), 0);
    }

    private static void clear() {
        TreeCounts net = Nets.petersen();
        net.chips(3, 50);
        net.settle(0);
        net.clear();
        askEmpty(net);
        due("node() behind clear()", net.node(), 0);
        for (int node = 1; node < 10; node++) {
            net.node();
            due("level(" + node + ") behind clear()", net.level(node), 0);
            due("fired(" + node + ") behind clear()", net.fired(node), 0);
        }
        due("arc() behind clear()", net.arc(0, 1, 3), 0);
        net.clear();
        net.clear();
        askEmpty(net);
    }

    private static void refusalsChangeNothing() {
        TreeCounts net = Nets.of(2, 0, 1, 4);
        net.chips(0, 6);
        net.chips(1, 9);
        net.settle(1);
        for (int wrong : WRONG) {
            net.arc(wrong, wrong, wrong);
            net.arc(0, 1, wrong);
            net.weigh(0, wrong);
            net.weigh(wrong, 5);
            net.chips(wrong, 5);
            net.chips(0, wrong < 0 || wrong > 200 ? wrong : -1);
            net.settle(wrong);
            net.recurrent(wrong);
        }
        due("told(1)", net.told(1), 1);
        due("trees()", net.trees(), 4);
        due("level(0)", net.level(0), 2);
        due("level(1)", net.level(1), 13);
        due("fired(0)", net.fired(0), 1);
    }

    private static void chipsStayWhenTheNetChanges() {
        TreeCounts net = Nets.of(2, 0, 1, 4);
        net.chips(0, 6);
        net.node();
        net.arc(1, 2, 1);
        net.weigh(0, 1);
        net.drop();
        net.drop();
        net.arc(0, 0, 9);
        due("level(0)", net.level(0), 6);
        due("level(1)", net.level(1), 0);
        due("level(2)", net.level(2), 0);
    }
}
