/** Promises 15 to 20, and Term 2 of sizes, joined and connected sets: each boundary, at it and one beyond it. */
public final class SetEdges extends Twins {
    private static final int MIN = Integer.MIN_VALUE;
    private static final int MAX = Integer.MAX_VALUE;
    /** An empty set, and such with bits of no relation of four. */
    private static final int[] NO_SETS_OF_FOUR = {0, 16, 17, 31, 32, 256, 257, -1, -2, -16, MIN, MIN | 1, MAX, 1 << 30};

    private SetEdges() {
    }

    public static void main(String[] args) {
        countOfAnotherWhat();
        countOfNothing();
        countOfRelationsEdgesLimit();
        countOfConnectedSetsAndPairs();
        countOfCappedSets();
        countOfTheSetOfAll();
        countOfThePlan();
        countOfBytesAndActs();
        countOfParts();
        edgeThereIsNone();
        edgeAnotherWhat();
        sizeOfNoSet();
        sizeIsAtMostTheCap();
        sizeStaysCapped();
        sizeByEdges();
        sizeRoundedDown();
        sizeOfEdgesInThoseTillThen();
        connectedSets();
        connectedOfNoSet();
        joinedSets();
        joinedOfNoSet();
        joinedWithSomeInCommon();
        pairsInTheirOrder();
        pairNotSoMany();
        pairToldButOnce();
        end();
    }

    /** The first six relations each joined with each: 15 edges. */
    private static JoinOrders clique() {
        JoinOrders x = of("relation 2;".repeat(8));
        for (int one = 0; one < 6; one++) {
            for (int other = one + 1; other < 6; other++) {
                x.link(1 << one, 1 << other, 1);
            }
        }
        return x;
    }

    // ---- promise 15

    private static void countOfAnotherWhat() {
        sentence(15, "NONE for another what");
        for (int what : new int[] {-1, -2, 12, 13, 256, MIN, MAX}) {
            due("count(" + what + ")", laden().count(what), NONE);
            due("count(" + what + ") on a new object", new JoinOrders().count(what), NONE);
        }
        for (int what = 0; what < 12; what++) {
            due("count(" + what + ") is not NONE", laden().count(what) != NONE, true);
        }
    }

    private static void countOfNothing() {
        sentence(1, "No RELATIONS.");
        int[] due = {0, 0, 1000, 0, 0, 0, 0, NONE, NONE, 0, 0, 0};
        for (int what = 0; what < 12; what++) {
            due("count(" + what + ")", new JoinOrders().count(what), due[what]);
        }
    }

    private static void countOfRelationsEdgesLimit() {
        sentence(15, "What 0: RELATIONS, 1: EDGES, 2: LIMIT");
        JoinOrders x = full();
        due("count(0) of the most", x.count(0), 8);
        due("count(1) of the most", x.count(1), 16);
        x.limit(5000);
        due("count(2) of the most", x.count(2), 5000);
        x.limit(0);
        due("count(2) of the least", x.count(2), 0);
    }

    private static void countOfConnectedSetsAndPairs() {
        sentence(15, "3: CONNECTED sets, 4: PAIRS");
        due("count(3) of one", ofRows(5).count(3), 1);
        due("count(4) of one", ofRows(5).count(4), 0);
        due("count(3) of two that are not joined", ofRows(5, 5).count(3), 2);
        due("count(4) of two that are not joined", ofRows(5, 5).count(4), 0);
        JoinOrders x = ofRows(5, 5);
        x.link(2, 1, 1);
        due("count(3) of two that are", x.count(3), 3);
        due("count(4) of two that are", x.count(4), 1);
        due("count(3) of a chain of eight", eight().count(3), 36);
        due("count(4) of a chain of eight", eight().count(4), 84);
        // All 63 sets of six, and two alone; each two of them with none in common: (3^6 - 2 * 2^6 + 1) / 2.
        due("count(3) of six that are all joined", clique().count(3), 65);
        due("count(4) of six that are all joined", clique().count(4), 301);
    }

    private static void countOfCappedSets() {
        sentence(15, "5: sets (not empty) of which the SIZE is CAPPED");
        due("count(5) of eight", of("relation 1000000;".repeat(8)).count(5), 256 - 1 - 8 - 28);
        due("count(5) of two", ofRows(1000000, 1000000).count(5), 0);
        due("count(5) of three that just are the cap", ofRows(1000000, 1000000, 1000).count(5), 0);
        due("count(5) of three that are more", ofRows(1000000, 1000000, 1001).count(5), 1);
        JoinOrders x = of("relation 1000000;".repeat(8));
        due("count(5) ahead of a change", x.count(5), 219);
        x.rows(7, 1);
        due("count(5) of seven and one row", x.count(5), 2 * (128 - 1 - 7 - 21));
        due("count(5) once more", x.count(5), 198);
        x.undo();
        due("count(5) of eight again", x.count(5), 219);
    }

    private static void countOfTheSetOfAll() {
        sentence(15, "6: 1 if the set of all is CONNECTED (and there are any), else 0");
        due("count(6) of none", new JoinOrders().count(6), 0);
        due("count(6) of one", ofRows(5).count(6), 1);
        due("count(6) of two", ofRows(5, 5).count(6), 0);
        due("count(6) of a chain", eight().count(6), 1);
        due("count(6) of six and two", clique().count(6), 0);
        JoinOrders x = eight();
        x.cut(6);
        due("count(6) of a chain without its last edge", x.count(6), 0);
        x.undo();
        due("count(6) of it again", x.count(6), 1);
    }

    private static void countOfThePlan() {
        sentence(15, "7: JOINS of THE PLAN (NONE: there is none), 8: its CROSSES (NONE)");
        JoinOrders x = of("relation 2;".repeat(8));
        due("count(7) without a plan", x.count(7), NONE);
        due("count(8) without a plan", x.count(8), NONE);
        planned(x, "0");
        due("count(7) of one relation", x.count(7), 0);
        due("count(8) of one relation", x.count(8), 0);
        planned(x, "(0 1)");
        due("count(7) of one join", x.count(7), 1);
        due("count(8) of one join", x.count(8), 1);
        x.choose();
        due("count(7) of eight", x.count(7), 7);
        due("count(8) of eight", x.count(8), 7);
        x = eight();
        x.choose();
        due("count(8) of a chain", x.count(8), 0);
        x.rows(0, 5);
        due("count(7) behind a change", x.count(7), NONE);
        due("count(8) behind a change", x.count(8), NONE);
    }

    private static void countOfBytesAndActs() {
        sentence(15, "9: ACTS that can be UNDONE, 10: bytes of THE TEXT");
        JoinOrders x = new JoinOrders();
        for (int i = 1; i <= 10; i++) {
            x.limit(i);
            due("count(9) of " + i, x.count(9), Math.min(i, 8));
        }
        typed(x, " ".repeat(499));
        due("count(10) of 499", x.count(10), 499);
        typed(x, " ");
        due("count(10) of 500", x.count(10), 500);
        typed(x, " ");
        due("count(10) of no more", x.count(10), 500);
        x.query();
        due("count(9) behind query()", x.count(9), 0);
        due("count(10) behind query()", x.count(10), 0);
    }

    private static void countOfParts() {
        sentence(15, "11: parts into which all RELATIONS fall, if two that are JOINED become one");
        due("count(11) of none", new JoinOrders().count(11), 0);
        due("count(11) of one", ofRows(5).count(11), 1);
        due("count(11) of eight that are not joined", of("relation 2;".repeat(8)).count(11), 8);
        due("count(11) of a chain", eight().count(11), 1);
        due("count(11) of six and two", clique().count(11), 3);
        JoinOrders x = of("relation 2;".repeat(4) + "edge 0 1 - 2 3 by 1;");
        due("count(11), neither side is one part", x.count(11), 4);
        x.link(1, 2, 1);
        due("count(11), one side is", x.count(11), 3);
        x.link(4, 8, 1);
        due("count(11), both are", x.count(11), 1);
    }

    // ---- promise 16

    private static void edgeThereIsNone() {
        sentence(16, "NoSuchElementException: there is none such");
        JoinOrders x = laden();
        due("edge(0, 0)", x.edge(0, 0), 1);
        due("edge(2, 1)", x.edge(2, 1), 8);
        for (int edge : new int[] {-1, 3, 4, 15, 16, MIN, MAX}) {
            dueNoSuchElement("edge(" + edge + ", 0) of three", () -> x.edge(edge, 0));
        }
        JoinOrders most = full();
        due("edge(15, 2) of sixteen", most.edge(15, 2), 2);
        dueNoSuchElement("edge(16, 2) of sixteen", () -> most.edge(16, 2));
        dueNoSuchElement("edge(0, 0) of none", () -> new JoinOrders().edge(0, 0));
        dueNoSuchElement("edge(0, 0) of relations alone", () -> ofRows(5, 5).edge(0, 0));
    }

    private static void edgeAnotherWhat() {
        sentence(16, "NoSuchElementException: another what");
        JoinOrders x = laden();
        for (int what : new int[] {-1, 3, 4, 256, MIN, MAX}) {
            dueNoSuchElement("edge(0, " + what + ")", () -> x.edge(0, what));
            dueNoSuchElement("edge(3, " + what + ")", () -> x.edge(3, what));
        }
    }

    // ---- promise 17

    private static void sizeOfNoSet() {
        sentence(17, "NONE: an empty one, other bits");
        for (int set : NO_SETS_OF_FOUR) {
            due("size(" + set + ", false)", chain().size(set, false), NONE);
            due("size(" + set + ", true)", chain().size(set, true), NONE);
        }
        due("size(1) of none", new JoinOrders().size(1, false), NONE);
        due("size(1) of one", ofRows(7).size(1, false), 7);
        due("size(2) of one", ofRows(7).size(2, false), NONE);
        due("size(3) of one", ofRows(7).size(3, true), NONE);
        due("size(255) of eight", eight().size(255, false), 256);
        due("size(128) of eight", eight().size(128, false), 2);
        due("size(256) of eight", eight().size(256, false), NONE);
        due("size(257) of eight", eight().size(257, false), NONE);
        due("size(128) of seven", of("relation 2;".repeat(7)).size(128, false), NONE);
    }

    private static void dueSize(JoinOrders x, int set, long size, int capped) {
        due("size(" + set + ", false)", x.size(set, false), size);
        due("size(" + set + ", true)", x.size(set, true), capped);
    }

    private static void sizeIsAtMostTheCap() {
        sentence(17, "what is more than 1000000000000000 (CAP) is CAP then, and the SIZE is CAPPED");
        dueSize(ofRows(1000000), 1, 1000000, 0);
        dueSize(ofRows(1000000, 1000000), 3, 1000000000000L, 0);
        dueSize(ofRows(999999, 1000000, 1000), 7, 999999000000000L, 0);
        dueSize(ofRows(1000000, 1000000, 999), 7, 999000000000000L, 0);
        dueSize(ofRows(1000000, 1000000, 1000), 7, CAP, 0);
        dueSize(ofRows(1000000, 1000000, 1000, 1), 15, CAP, 0);
        dueSize(ofRows(1000000, 1000000, 1000, 2), 15, CAP, 1);
        // These make one more than the cap.
        dueSize(ofRows(241241, 455971, 9091), 7, CAP, 1);
        dueSize(ofRows(1000000, 1000000, 1001), 7, CAP, 1);
        // Unchecked, these products would be more than a long holds.
        JoinOrders x = of("relation 1000000;".repeat(8));
        for (int many = 1; many <= 8; many++) {
            long size = many == 1 ? 1000000 : many == 2 ? 1000000000000L : CAP;
            dueSize(x, (1 << many) - 1, size, many < 3 ? 0 : 1);
            dueSize(x, 255 & -1 << 8 - many, size, many < 3 ? 0 : 1);
        }
    }

    private static void sizeStaysCapped() {
        sentence(17, "the SIZE is CAPPED, whatever comes then");
        JoinOrders x = ofRows(1000000, 1000000, 1000000, 1, 5);
        x.link(3, 4, 100000);
        dueSize(x, 7, 10000000000L, 1);
        dueSize(x, 15, 10000000000L, 1);
        dueSize(x, 31, 50000000000L, 1);
        dueSize(x, 3, 1000000000000L, 0);
        x = ofRows(1000000, 1000000, 1000);
        x.link(3, 4, 10);
        dueSize(x, 7, CAP / 10, 0);
        // Behind a division the product may be more than the cap once more.
        x = of("relation 1000000;".repeat(5));
        x.link(3, 4, 10);
        x.link(7, 8, 10);
        dueSize(x, 7, CAP / 10, 1);
        dueSize(x, 15, CAP / 10, 1);
        dueSize(x, 31, CAP, 1);
    }

    private static void sizeByEdges() {
        sentence(17, "then, for each EDGE: by BY");
        JoinOrders x = of("relation 1000000;".repeat(3));
        x.link(1, 2, 1000);
        dueSize(x, 3, 1000000000L, 0);
        dueSize(x, 7, CAP, 0);
        x.by(0, 999);
        dueSize(x, 7, CAP, 1);
        x.by(0, 1001);
        dueSize(x, 7, 1000000000000L / 1001 * 1000000, 0);
        x.cut(0);
        x.link(1, 4, 1000);
        // It comes behind the cap.
        dueSize(x, 7, CAP / 1000, 1);
    }

    private static void sizeRoundedDown() {
        sentence(17, "rounded down, but 1 at least");
        int[] by = {1, 2, 3, 4, 5, 8, 9, 10, 100000};
        int[] size = {9, 4, 3, 2, 1, 1, 1, 1, 1};
        for (int i = 0; i < by.length; i++) {
            JoinOrders x = ofRows(3, 3);
            x.link(1, 2, by[i]);
            dueSize(x, 3, size[i], 0);
        }
        JoinOrders x = ofRows(1, 1, 1);
        x.link(1, 2, 100000);
        x.link(1, 2, 100000);
        dueSize(x, 3, 1, 0);
        dueSize(x, 7, 1, 0);
        x.rows(2, 1000000);
        dueSize(x, 7, 1000000, 0);
        x = ofRows(10, 10);
        x.link(1, 2, 3);
        x.link(2, 1, 4);
        dueSize(x, 3, 8, 0);
    }

    private static void sizeOfEdgesInThoseTillThen() {
        sentence(17, "each EDGE that lies IN those till then, and not in those ahead of it");
        JoinOrders x = ofRows(10, 10, 10, 10);
        x.link(1, 2, 3);
        dueSize(x, 3, 33, 0);
        // Only once: not at the third relation again.
        dueSize(x, 7, 330, 0);
        dueSize(x, 15, 3300, 0);
        dueSize(x, 5, 100, 0);
        dueSize(x, 14, 1000, 0);
        x = ofRows(10, 10, 10, 10);
        x.link(8, 5, 3);
        dueSize(x, 5, 100, 0);
        dueSize(x, 9, 100, 0);
        dueSize(x, 12, 100, 0);
        dueSize(x, 13, 333, 0);
        dueSize(x, 15, 3333, 0);
        dueSize(x, 7, 1000, 0);
    }

    // ---- promise 18

    private static void connectedSets() {
        sentence(18, "CONNECTED is each RELATION alone, and each set that two CONNECTED ones make that are JOINED");
        JoinOrders x = of("relation 2;".repeat(8));
        for (int set = 1; set < 256; set++) {
            due("connected(" + set + ") without edges", x.connected(set), Integer.bitCount(set) == 1);
        }
        x = eight();
        for (int set = 1; set < 256; set++) {
            due("connected(" + set + ") of a chain", x.connected(set), (set & set + (set & -set)) == 0);
        }
        x = of("relation 2;".repeat(3) + "edge 0 1 - 2 by 1;");
        due("connected(7), its left is not connected", x.connected(7), false);
        x.link(1, 2, 1);
        due("connected(7), now it is", x.connected(7), true);
        due("connected(5)", x.connected(5), false);
        due("connected(6)", x.connected(6), false);
    }

    private static void connectedOfNoSet() {
        sentence(18, "false: others");
        for (int set : NO_SETS_OF_FOUR) {
            due("connected(" + set + ")", chain().connected(set), false);
        }
        due("connected(15)", chain().connected(15), true);
        due("connected(0) of none", new JoinOrders().connected(0), false);
        due("connected(1) of none", new JoinOrders().connected(1), false);
        due("connected(1) of one", ofRows(5).connected(1), true);
        due("connected(2) of one", ofRows(5).connected(2), false);
        due("connected(255) of eight", eight().connected(255), true);
        due("connected(256) of eight", eight().connected(256), false);
        due("connected(511) of eight", eight().connected(511), false);
    }

    // ---- promise 19

    private static void joinedSets() {
        sentence(19, "JOINED, if the LEFT of an EDGE lies in the one and its RIGHT in the other one");
        JoinOrders x = of("relation 2;".repeat(4) + "edge 0 1 - 2 by 1;");
        for (int one = 1; one < 16; one++) {
            for (int other = 1; other < 16; other++) {
                boolean there = (one & 3) == 3 && (other & 4) != 0 || (other & 3) == 3 && (one & 4) != 0;
                due("joined(" + one + ", " + other + ")", x.joined(one, other), there && (one & other) == 0);
            }
        }
        x = eight();
        due("joined(64, 128)", x.joined(64, 128), true);
        due("joined(128, 64)", x.joined(128, 64), true);
        due("joined(1, 128)", x.joined(1, 128), false);
        due("joined(127, 128)", x.joined(127, 128), true);
        due("joined(85, 170)", x.joined(85, 170), true);
    }

    private static void joinedOfNoSet() {
        sentence(19, "false: others");
        for (int set : NO_SETS_OF_FOUR) {
            due("joined(" + set + ", 2)", chain().joined(set, 2), false);
            due("joined(2, " + set + ")", chain().joined(2, set), false);
            due("joined of it twice", chain().joined(set, set), false);
        }
        due("joined(1, 2)", chain().joined(1, 2), true);
        due("joined(17, 2)", chain().joined(17, 2), false);
        due("joined(1, 18)", chain().joined(1, 18), false);
        due("joined(1, 2) of none", new JoinOrders().joined(1, 2), false);
        due("joined(1, 2) of two that are not", ofRows(5, 5).joined(1, 2), false);
    }

    private static void joinedWithSomeInCommon() {
        sentence(19, "false: some in common");
        due("joined(1, 6)", chain().joined(1, 6), true);
        due("joined(3, 6)", chain().joined(3, 6), false);
        due("joined(3, 2)", chain().joined(3, 2), false);
        due("joined(15, 1)", chain().joined(15, 1), false);
        due("joined(15, 15)", chain().joined(15, 15), false);
        due("joined(1, 1)", chain().joined(1, 1), false);
    }

    // ---- promise 20

    private static void pairsInTheirOrder() {
        sentence(20, "by the sets that both make (as bits, rising), then by the first one");
        for (JoinOrders x : new JoinOrders[] {chain(), ringOfFour()}) {
            int k = 0;
            for (int set = 1; set < 16; set++) {
                for (int first = 1; first < set; first++) {
                    int second = set ^ first;
                    boolean pair = (set & first) == first && (first & set & -set) != 0
                        && x.connected(first) && x.connected(second) && x.joined(first, second);
                    if (pair) {
                        due("pair(" + k + ", false)", x.pair(k, false), first);
                        due("pair(" + k + ", true)", x.pair(k, true), second);
                        k++;
                    }
                }
            }
            due("count(4)", x.count(4), k);
        }
    }

    private static JoinOrders ringOfFour() {
        JoinOrders x = chain();
        x.link(8, 1, 5);
        return x;
    }

    private static void pairNotSoMany() {
        sentence(20, "NONE: not so many");
        for (int k : new int[] {-1, -2, 10, 11, 256, MIN, MAX}) {
            due("pair(" + k + ", false) of ten", chain().pair(k, false), NONE);
            due("pair(" + k + ", true) of ten", chain().pair(k, true), NONE);
        }
        due("pair(0, false)", chain().pair(0, false), 1);
        due("pair(0, true)", chain().pair(0, true), 2);
        due("pair(9, false)", chain().pair(9, false), 7);
        due("pair(9, true)", chain().pair(9, true), 8);
        due("pair(300, false) of 301", clique().pair(300, false), 61);
        due("pair(300, true) of 301", clique().pair(300, true), 2);
        due("pair(301, false) of 301", clique().pair(301, false), NONE);
        due("pair(0, false) of none", new JoinOrders().pair(0, false), NONE);
        due("pair(0, false) of one relation", ofRows(5).pair(0, false), NONE);
        due("pair(0, false) of two that are not joined", ofRows(5, 5).pair(0, false), NONE);
    }

    private static void pairToldButOnce() {
        sentence(20, "told but once, the one with the least RELATION first");
        JoinOrders x = ofRows(5, 5);
        x.link(2, 1, 1);
        x.link(1, 2, 1);
        x.link(2, 1, 3);
        due("count(4)", x.count(4), 1);
        due("pair(0, false)", x.pair(0, false), 1);
        due("pair(0, true)", x.pair(0, true), 2);
        due("pair(1, false)", x.pair(1, false), NONE);
    }
}
