/** Promises 21 to 29, and Term 2 of plans: each sentence that names a boundary, at it and one beyond it. */
public final class PlanEdges extends Twins {
    private static final int MIN = Integer.MIN_VALUE;
    private static final int MAX = Integer.MAX_VALUE;
    private static final int[] NO_SETS_OF_FOUR = {0, 16, 17, 31, 32, 256, 257, -1, -2, -16, MIN, MIN | 1, MAX, 1 << 30};
    private static final int[] NO_WHATS = {-1, -2, 5, 6, 256, MIN, MAX};

    private PlanEdges() {
    }

    public static void main(String[] args) {
        bestOfNoSet();
        bestAnotherWhat();
        bestOfOneRelation();
        bestWithFewestCrosses();
        bestCostAtTheCap();
        bestOfLikeOnes();
        linearBest();
        greedyOfNoneAndOfOne();
        greedyAnotherWhat();
        greedyJoinedAhead();
        greedyOfSeveral();
        greedyCostAtTheCap();
        nodeWithoutAPlan();
        nodeNoneSuch();
        nodeAnotherWhat();
        nodesInTheirOrder();
        nodeCostAtTheCap();
        costWithoutAPlan();
        costAtTheCap();
        toldWithoutAPlan();
        toldNotSoMany();
        toldOfThePart();
        moveWithoutAPlan();
        moveNotSoMany();
        movesInTheirOrder();
        moveCostAtTheCap();
        stepsWithoutAPlan();
        stepsOneBehindTheOther();
        wouldNoneSuch();
        wouldCanNotBe();
        wouldAtTheEnds();
        wouldCostAtTheCap();
        neededWithoutEdges();
        neededOfLikeOnes();
        neededOfTheLast();
        neededCostAtTheCap();
        end();
    }

    // ---- promise 21

    private static void bestOfNoSet() {
        sentence(21, "NONE: an empty one, other bits");
        for (int set : NO_SETS_OF_FOUR) {
            for (int what = 0; what < 3; what++) {
                due("best(" + set + ", false, " + what + ")", chain().best(set, false, what), NONE);
                due("best(" + set + ", true, " + what + ")", chain().best(set, true, what), NONE);
            }
        }
        due("best(15, false, 0)", chain().best(15, false, 0), 10400);
        due("best(1, false, 0) of none", new JoinOrders().best(1, false, 0), NONE);
        due("best(0, false, 0) of none", new JoinOrders().best(0, false, 0), NONE);
        due("best(255, false, 1) of eight", eight().best(255, false, 1), 0);
        due("best(256, false, 1) of eight", eight().best(256, false, 1), NONE);
        due("best(511, true, 1) of eight", eight().best(511, true, 1), NONE);
    }

    private static void bestAnotherWhat() {
        sentence(21, "NONE: another what");
        for (int what : new int[] {-1, -2, 3, 4, 256, MIN, MAX}) {
            due("best(15, false, " + what + ")", chain().best(15, false, what), NONE);
            due("best(15, true, " + what + ")", chain().best(15, true, what), NONE);
            due("best(1, false, " + what + ")", chain().best(1, false, what), NONE);
        }
    }

    private static void bestOfOneRelation() {
        sentence(21, "(0: it is one RELATION)");
        for (int relation = 0; relation < 8; relation++) {
            for (int what = 0; what < 3; what++) {
                due("best of " + relation + ", " + what, eight().best(1 << relation, false, what), 0);
                due("linear best of " + relation + ", " + what, eight().best(1 << relation, true, what), 0);
            }
        }
        due("best(192, false, 2) of two", eight().best(192, false, 2), 64);
        due("best(192, true, 2) of two", eight().best(192, true, 2), 64);
    }

    private static void bestWithFewestCrosses() {
        sentence(21, "the JOIN with fewest CROSSES in all; of these with least COST");
        // A cross of 0 and 1 would cost but 5 + 25; without one it is 25 + 25.
        JoinOrders x = of("relation 1;relation 5;relation 5;edge 1-2 by 1;edge 0-1 2 by 1;");
        due("best(7, false, 0)", x.best(7, false, 0), 50);
        due("best(7, false, 1)", x.best(7, false, 1), 0);
        due("best(7, false, 2)", x.best(7, false, 2), 1);
        due("best(7, true, 0)", x.best(7, true, 0), 50);
        x.cut(1);
        // Now there is one in all plans: the cheaper ones are let in.
        due("best(7, false, 0)", x.best(7, false, 0), 30);
        due("best(7, false, 1)", x.best(7, false, 1), 1);
        due("best(7, false, 2)", x.best(7, false, 2), 3);
        x.cut(0);
        due("best(7, false, 1)", x.best(7, false, 1), 2);
        due("best(255, false, 1) of eight crosses", of("relation 2;".repeat(8)).best(255, false, 1), 7);
        due("best(255, true, 1) of eight crosses", of("relation 2;".repeat(8)).best(255, true, 1), 7);
    }

    /** The least pair makes 1000000000, all with it so many times one more than the last has rows. */
    private static JoinOrders nearCap(int last) {
        return ofRows(1250, 800000, last);
    }

    private static void bestCostAtTheCap() {
        sentence(21, "COST: SIZES together (more than CAP is CAP)");
        for (boolean linear : new boolean[] {false, true}) {
            due("best cost below", nearCap(999998).best(7, linear, 0), 999999000000000L);
            due("best cost at the cap", nearCap(999999).best(7, linear, 0), CAP);
            due("best cost beyond", nearCap(1000000).best(7, linear, 0), CAP);
            due("size(7, true) beyond", nearCap(1000000).size(7, true), 0);
            due("best cost of eight", of("relation 1000000;".repeat(8)).best(255, linear, 0), CAP);
        }
        // All that cost more than the cap are alike, so the least part is taken.
        due("best part of like ones", of("relation 1000000;".repeat(8)).best(255, false, 2), 1);
        due("best part at the cap", nearCap(999999).best(7, false, 2), 1);
        due("best part below", nearCap(999998).best(7, false, 2), 3);
    }

    private static void bestOfLikeOnes() {
        sentence(21, "of these that of which the part with the least RELATION is the least set");
        JoinOrders x = of("relation 1;".repeat(8));
        for (int set = 3; set < 256; set++) {
            if (Integer.bitCount(set) > 1) {
                due("best(" + set + ", false, 2)", x.best(set, false, 2), set & -set);
                due("best(" + set + ", true, 2)", x.best(set, true, 2), set & -set);
            }
        }
        x = ofRows(2, 2, 2, 2);
        due("best(15, false, 2), two and two", x.best(15, false, 2), 3);
        due("best(15, true, 2), one and three", x.best(15, true, 2), 1);
        due("best(7, false, 2), 0 with 1 as dear as 0 with 2", ofRows(2, 3, 3).best(7, false, 2), 3);
        due("best(7, false, 2), 0 with 2 is less", ofRows(2, 4, 3).best(7, false, 2), 5);
        due("best(7, false, 2), all are as dear", ofRows(3, 3, 3).best(7, false, 2), 1);
    }

    private static void linearBest() {
        sentence(21, "one of both sets at least being one RELATION");
        due("best(15, false, 0)", chain().best(15, false, 0), 10400);
        due("best(15, true, 0)", chain().best(15, true, 0), 11100);
        for (int many = 2; many <= 8; many++) {
            JoinOrders x = eight();
            int set = (1 << many) - 1;
            long part = x.best(set, true, 2);
            boolean one = Long.bitCount(part) == 1 || Long.bitCount(set ^ part) == 1;
            due("a part of " + many + " is one relation", one, true);
        }
        due("best(7, true, 0) of three, as the best of all", chain().best(7, true, 0), chain().best(7, false, 0));
    }

    // ---- promise 22

    private static void greedyOfNoneAndOfOne() {
        sentence(22, "NONE: there are none; (0: it is one RELATION)");
        for (int what = 0; what < 3; what++) {
            due("greedy(" + what + ") of none", new JoinOrders().greedy(what), NONE);
            due("greedy(" + what + ") of one", ofRows(5).greedy(what), 0);
        }
        JoinOrders x = ofRows(5, 6);
        due("greedy(0) of two", x.greedy(0), 30);
        due("greedy(1) of two", x.greedy(1), 1);
        due("greedy(2) of two", x.greedy(2), 1);
        x.link(2, 1, 1);
        due("greedy(1) of two that are joined", x.greedy(1), 0);
        due("greedy(1) of eight", of("relation 2;".repeat(8)).greedy(1), 7);
    }

    private static void greedyAnotherWhat() {
        sentence(22, "NONE: another what");
        for (int what : new int[] {-1, -2, 3, 4, 256, MIN, MAX}) {
            due("greedy(" + what + ")", chain().greedy(what), NONE);
            due("greedy(" + what + ") of one", ofRows(5).greedy(what), NONE);
            due("greedy(" + what + ") of none", new JoinOrders().greedy(what), NONE);
        }
    }

    private static void greedyJoinedAhead() {
        sentence(22, "two that are JOINED, if any are; of these, the SIZE of whose set is least");
        JoinOrders x = of("relation 1;relation 1;relation 1000000;relation 1000000;edge 2-3 by 1;");
        due("greedy(2), joined ones ahead of lesser ones", x.greedy(2), 3);
        due("greedy(1)", x.greedy(1), 2);
        x = ofRows(9, 10, 9);
        x.link(1, 2, 1);
        x.link(2, 4, 1);
        x.rows(2, 8);
        due("greedy(2), 80 is less than 90", x.greedy(2), 1);
        x.rows(2, 9);
        due("greedy(2), of like ones the least", x.greedy(2), 3);
        x.rows(2, 10);
        due("greedy(2), 90 is less than 100", x.greedy(2), 3);
    }

    private static void greedyOfSeveral() {
        sentence(22, "of several, by the least of the first set, then of the second one");
        JoinOrders x = of("relation 1;".repeat(4));
        // 0 with 1; then {0 1}, as bits 3, goes ahead of 2, as bits 4.
        due("greedy(2) of four", x.greedy(2), 7);
        x.limit(0);
        x.link(1, 8, 1);
        x.choose();
        // 0 with 3, as they are joined; then 1, as bits 2, goes ahead of {0 3}, as bits 9.
        due("told, 0 with 3 ahead", toldBy(x), "((0 3) (1 2))");
        x = of("relation 2;".repeat(4));
        due("greedy(2), two and two", x.greedy(2), 3);
        due("greedy(0)", x.greedy(0), 4 + 4 + 16);
        x = of("relation 1000000;".repeat(8));
        x.limit(0);
        x.link(128, 1, 1);
        x.choose();
        // Two by two, as long as that is less than the cap; all greater ones are alike: 6 goes with 24, then 30 with 96.
        due("told, of such that are capped", toldBy(x), "((0 7) (((1 2) (3 4)) (5 6)))");
    }

    private static void greedyCostAtTheCap() {
        sentence(22, "COST (more than CAP is CAP)");
        due("greedy(0) below", nearCap(999998).greedy(0), 999999000000000L);
        due("greedy(0) at the cap", nearCap(999999).greedy(0), CAP);
        due("greedy(0) beyond", nearCap(1000000).greedy(0), CAP);
        due("greedy(0) of eight", of("relation 1000000;".repeat(8)).greedy(0), CAP);
    }

    // ---- promise 23

    private static void nodeWithoutAPlan() {
        sentence(23, "NoSuchElementException: there is no PLAN");
        for (int what = -1; what < 6; what++) {
            int w = what;
            dueNoSuchElement("node(0, " + w + ")", () -> chain().node(0, w));
            dueNoSuchElement("node(0, " + w + ") of none", () -> new JoinOrders().node(0, w));
        }
        JoinOrders x = laden();
        due("node(0, 0)", x.node(0, 0), 15);
        x.by(0, 99);
        dueNoSuchElement("node(0, 0) behind a change", () -> x.node(0, 0));
    }

    private static void nodeNoneSuch() {
        sentence(23, "NoSuchElementException: none such");
        for (int joins = 0; joins < 8; joins++) {
            JoinOrders x = eight();
            String text = "0";
            for (int k = 1; k <= joins; k++) {
                text = "(" + text + " " + k + ")";
            }
            planned(x, text);
            int many = joins;
            for (int k = 0; k < many; k++) {
                due("node(" + k + ", 0) of " + many, x.node(k, 0), (1 << many + 1 - k) - 1);
            }
            dueNoSuchElement("node(" + many + ", 0) of so many", () -> x.node(many, 0));
            dueNoSuchElement("node(" + (many + 1) + ", 0)", () -> x.node(many + 1, 0));
            dueNoSuchElement("node(-1, 0)", () -> x.node(-1, 0));
            dueNoSuchElement("node(MIN, 0)", () -> x.node(MIN, 0));
            dueNoSuchElement("node(MAX, 0)", () -> x.node(MAX, 0));
        }
    }

    private static void nodeAnotherWhat() {
        sentence(23, "NoSuchElementException: another what");
        JoinOrders x = chain();
        planned(x, "((0 1) 2)");
        for (int what : NO_WHATS) {
            dueNoSuchElement("node(0, " + what + ")", () -> x.node(0, what));
            dueNoSuchElement("node(1, " + what + ")", () -> x.node(1, what));
        }
        long[] due = {7, 3, 1000, 1100, 0};
        for (int what = 0; what < 5; what++) {
            due("node(0, " + what + ")", x.node(0, what), due[what]);
        }
    }

    private static void nodesInTheirOrder() {
        sentence(23, "the whole first; of each, its own, then those of its part with the least RELATION, then of the other part");
        JoinOrders x = eight();
        planned(x, "(((7 6) (5 4)) ((3 2) (1 0)))");
        int[] sets = {255, 15, 3, 12, 240, 48, 192};
        int[] parts = {15, 3, 1, 4, 48, 16, 64};
        for (int k = 0; k < 7; k++) {
            due("node(" + k + ", 0)", x.node(k, 0), sets[k]);
            due("node(" + k + ", 1)", x.node(k, 1), parts[k]);
        }
        planned(x, "((7 0) (6 1))");
        due("node(0, 4)", x.node(0, 4), 0);
        due("node(1, 4)", x.node(1, 4), 1);
        due("node(2, 4)", x.node(2, 4), 1);
    }

    private static void nodeCostAtTheCap() {
        sentence(23, "3: COST of the PLAN of that set (more than CAP is CAP)");
        for (int last = 999998; last <= 1000000; last++) {
            JoinOrders x = nearCap(last);
            planned(x, "((0 1) 2)");
            due("node(0, 3) of " + last, x.node(0, 3), Math.min(CAP, 1000000000L * (last + 1)));
            due("node(1, 3) of " + last, x.node(1, 3), 1000000000L);
            due("node(0, 2) of " + last, x.node(0, 2), 1000000000L * last);
        }
    }

    // ---- promise 24

    private static void costWithoutAPlan() {
        sentence(24, "NONE: there is none");
        due("cost() on a new object", new JoinOrders().cost(), NONE);
        due("cost() without a plan", chain().cost(), NONE);
        JoinOrders x = chain();
        planned(x, "3");
        due("cost() of one relation", x.cost(), 0);
        planned(x, "(3 0)");
        due("cost() of one join", x.cost(), 400);
        x.undo();
        due("cost() of the plan ahead", x.cost(), 0);
        x.undo();
        due("cost() of none again", x.cost(), NONE);
    }

    private static void costAtTheCap() {
        sentence(24, "COST: SIZES of the sets of all its JOINS together (more than CAP is CAP)");
        for (int last = 999998; last <= 1000000; last++) {
            JoinOrders x = nearCap(last);
            planned(x, "((0 1) 2)");
            due("cost() of " + last, x.cost(), Math.min(CAP, 1000000000L * (last + 1)));
        }
        JoinOrders x = of("relation 1000000;".repeat(8));
        planned(x, "(0 (1 (2 (3 (4 (5 (6 7)))))))");
        due("cost() of six that are capped", x.cost(), CAP);
    }

    // ---- promise 25

    private static void toldWithoutAPlan() {
        sentence(25, "NONE: there is no PLAN");
        for (int i : new int[] {NONE, 0, 1, -2, MIN, MAX}) {
            due("told(" + i + ") on a new object", new JoinOrders().told(i), NONE);
            due("told(" + i + ") without a plan", chain().told(i), NONE);
        }
    }

    private static void toldNotSoMany() {
        sentence(25, "(i NONE) how many it has; NONE: not so many");
        String text = "0";
        for (int joins = 0; joins < 8; joins++) {
            JoinOrders x = eight();
            planned(x, text);
            due("told(NONE) of " + text, x.told(NONE), text.length());
            due("told(0)", x.told(0), text.charAt(0));
            due("told of the last", x.told(text.length() - 1), text.charAt(text.length() - 1));
            for (int i : new int[] {text.length(), text.length() + 1, 29, 30, 256, -2, -3, MIN, MAX}) {
                if (i < 0 || i >= text.length()) {
                    due("told(" + i + ") of " + text, x.told(i), NONE);
                }
            }
            text = "(" + text + " " + (joins + 1) + ")";
        }
    }

    private static void toldOfThePart() {
        sentence(25, "( the part with the least RELATION, one blank, the other one )");
        JoinOrders x = eight();
        String[][] plans = {
            {"7", "7"}, {"(7 0)", "(0 7)"}, {"(7 (6 5))", "((5 6) 7)"}, {"((7 6)(5 4))", "((4 5) (6 7))"},
            {"((3 7)((1 6)(2 5)))", "(((1 6) (2 5)) (3 7))"}, {"(1(0 2))", "((0 2) 1)"}, {"((1 2)0)", "(0 (1 2))"}
        };
        for (String[] plan : plans) {
            planned(x, plan[0]);
            due("told of " + plan[0], toldBy(x), plan[1]);
        }
    }

    // ---- promise 26

    private static void moveWithoutAPlan() {
        sentence(26, "NONE: there is no PLAN");
        for (int k : new int[] {NONE, 0, 1, -2, MIN, MAX}) {
            due("move(" + k + ") on a new object", new JoinOrders().move(k), NONE);
            due("move(" + k + ") without a plan", chain().move(k), NONE);
        }
    }

    private static void moveNotSoMany() {
        sentence(26, "How many MOVES THE PLAN has (k NONE); NONE: not so many");
        String text = "0";
        for (int joins = 0; joins < 8; joins++) {
            JoinOrders x = eight();
            planned(x, text);
            int many = joins < 2 ? 0 : 2 * (joins - 1);
            due("move(NONE) of " + text, x.move(NONE), many);
            for (int k = 0; k < many; k++) {
                due("move(" + k + ") of " + text, x.move(k) > 0, true);
            }
            for (int k : new int[] {many, many + 1, 12, 13, -2, MIN, MAX}) {
                if (k < 0 || k >= many) {
                    due("move(" + k + ") of " + text, x.move(k), NONE);
                }
            }
            text = "(" + text + " " + (joins + 1) + ")";
        }
    }

    /** Rows that are different primes tell by each cost which plan it is of. */
    private static void movesInTheirOrder() {
        sentence(26, "at each NODE, rising, of which a part is a JOIN: A with (B with C), B with (A with C)");
        JoinOrders x = ofRows(2, 3, 5, 7, 11);
        planned(x, "((4 2) ((3 1) 0))");
        due("told", toldBy(x), "((0 (1 3)) (2 4))");
        long all = 2 * 3 * 5 * 7 * 11;
        long[] due = {
            // Node 0: the part {0 1 3}, A {0}, B {1 3}, C {2 4}; then the part {2 4}, C {0 1 3}.
            all + 3 * 7 + 5 * 11 + 3 * 7 * 5 * 11, all + 3 * 7 + 5 * 11 + 2 * 5 * 11,
            all + 2 * 3 * 7 + 3 * 7 + 2 * 3 * 7 * 11, all + 2 * 3 * 7 + 3 * 7 + 2 * 3 * 7 * 5,
            // Node 1: the part {1 3}, A {1}, B {3}, C {0}.
            all + 5 * 11 + 2 * 3 * 7 + 2 * 7, all + 5 * 11 + 2 * 3 * 7 + 2 * 3
        };
        due("move(NONE)", x.move(NONE), due.length);
        for (int k = 0; k < due.length; k++) {
            due("move(" + k + ")", x.move(k), due[k]);
        }
        due("move(6)", x.move(6), NONE);
    }

    private static void moveCostAtTheCap() {
        sentence(26, "COST of the PLAN by the k-th (more than CAP is CAP)");
        for (int last = 999998; last <= 1000000; last++) {
            JoinOrders x = nearCap(last);
            planned(x, "((0 2) 1)");
            // A is 0, B is 2, C is 1: 0 with (1 2), 2 with (0 1).
            due("move(0) of " + last, x.move(0), CAP);
            due("move(1) of " + last, x.move(1), Math.min(CAP, 1000000000L * (last + 1)));
        }
    }

    // ---- promise 27

    private static void stepsWithoutAPlan() {
        sentence(27, "NONE: there is no PLAN");
        due("steps() on a new object", new JoinOrders().steps(), NONE);
        due("steps() without a plan", chain().steps(), NONE);
        JoinOrders x = chain();
        planned(x, "0");
        due("steps() of one relation", x.steps(), 0);
        planned(x, "(0 2)");
        due("steps() of one join", x.steps(), 0);
        x.choose();
        due("steps() of the best", x.steps(), 0);
        x.cut(0);
        due("steps() behind a change", x.steps(), NONE);
    }

    private static void stepsOneBehindTheOther() {
        sentence(27, "How many STEPS could be made one behind the other");
        String[] plans = {
            "(0 (1 2))", "((0 2) 1)", "((0 3) (1 2))", "((0 2) (1 3))", "(((0 3) 1) 2)", "(((0 3) 2) 1)", "(0 (2 (1 3)))"
        };
        for (String plan : plans) {
            for (JoinOrders x : new JoinOrders[] {chain(), trap(), ofRows(7, 2, 5, 3)}) {
                planned(x, plan);
                int steps = x.steps();
                for (int left = steps; left > 0; left--) {
                    due("step() of " + plan, x.step() > 0, true);
                    due("steps() of " + plan, x.steps(), left - 1);
                }
                due("step() of " + plan + " when there are none", x.step(), 0);
            }
        }
        JoinOrders x = eight();
        planned(x, "(((((((0 7) 1) 6) 2) 5) 3) 4)");
        int steps = x.steps();
        due("steps() of eight are some", steps > 2, true);
        for (int i = 0; i < steps; i++) {
            x.step();
        }
        due("step() then", x.step(), 0);
    }

    // ---- promise 28

    private static void wouldNoneSuch() {
        sentence(28, "NONE: there is none such");
        for (int k : new int[] {-1, -2, 4, 5, 8, 32, MIN, MAX}) {
            due("would(false, " + k + ", 5)", chain().would(false, k, 5), NONE);
        }
        for (int k : new int[] {-1, -2, 3, 4, 16, 32, MIN, MAX}) {
            due("would(true, " + k + ", 5)", chain().would(true, k, 5), NONE);
        }
        due("would(false, 0, 5) of none", new JoinOrders().would(false, 0, 5), NONE);
        due("would(true, 0, 5) of none", new JoinOrders().would(true, 0, 5), NONE);
        due("would(true, 0, 5) of relations alone", ofRows(5, 5).would(true, 0, 5), NONE);
        due("would(false, 7, 5) of eight", eight().would(false, 7, 5) > 0, true);
        due("would(false, 8, 5) of eight", eight().would(false, 8, 5), NONE);
        due("would(true, 15, 5) of sixteen", full().would(true, 15, 5) > 0, true);
        due("would(true, 16, 5) of sixteen", full().would(true, 16, 5), NONE);
    }

    private static void wouldCanNotBe() {
        sentence(28, "NONE: v can not be");
        for (int v : new int[] {0, -1, 1000001, MIN, MAX}) {
            due("would(false, 0, " + v + ")", chain().would(false, 0, v), NONE);
        }
        for (int v : new int[] {0, -1, 100001, 1000000, MIN, MAX}) {
            due("would(true, 0, " + v + ")", chain().would(true, 0, v), NONE);
        }
    }

    private static void wouldAtTheEnds() {
        sentence(28, "COST of BEST of all RELATIONS, were ROWS, or BY v (at the ends of what can be)");
        due("would(false, 0, 1)", chain().would(false, 0, 1), 10 + 100 + 1000);
        due("would(false, 0, 1000000)", chain().would(false, 0, 1000000), 200 + 2000 + 1000000000L);
        due("would(true, 0, 1)", chain().would(true, 0, 1), 200 + 300 + 20000);
        due("would(true, 0, 100000)", chain().would(true, 0, 100000), 1 + 10 + 100);
        due("would(false, 0, 10), as it is", chain().would(false, 0, 10), 10400);
        due("would(true, 2, 4), as it is", chain().would(true, 2, 4), 10400);
        due("would(false, 0, 7) of one", ofRows(5).would(false, 0, 7), 0);
        due("would(false, 1, 7) of two", ofRows(5, 5).would(false, 1, 7), 35);
    }

    private static void wouldCostAtTheCap() {
        sentence(28, "COST (more than CAP is CAP)");
        due("would(false, 2, 999998)", nearCap(5).would(false, 2, 999998), 999999000000000L);
        due("would(false, 2, 999999)", nearCap(5).would(false, 2, 999999), CAP);
        due("would(false, 2, 1000000)", nearCap(5).would(false, 2, 1000000), CAP);
    }

    // ---- promise 29

    private static void neededWithoutEdges() {
        sentence(29, "NONE: there are none");
        for (boolean much : new boolean[] {false, true}) {
            due("needed on a new object", new JoinOrders().needed(much), NONE);
            due("needed of relations alone", ofRows(5, 5, 5).needed(much), NONE);
            JoinOrders x = chain();
            x.cut(0);
            x.cut(0);
            due("needed of one", x.needed(much) >= 0, true);
            x.cut(0);
            due("needed of none any more", x.needed(much), NONE);
        }
    }

    private static void dueNeeded(JoinOrders x, int edge, long cost) {
        due("needed(false)", x.needed(false), edge);
        due("needed(true)", x.needed(true), cost);
    }

    private static void neededOfLikeOnes() {
        sentence(29, "would be greatest (of like ones the least)");
        JoinOrders x = ofRows(10, 10);
        x.link(1, 2, 3);
        dueNeeded(x, 0, 100);
        x.link(2, 1, 3);
        dueNeeded(x, 0, 33);
        x.by(1, 4);
        dueNeeded(x, 1, 33);
        x.by(0, 5);
        dueNeeded(x, 0, 25);
        // 100 by 34, and by 35, are both 2.
        x.by(0, 34);
        x.by(1, 35);
        dueNeeded(x, 0, 2);
    }

    private static void neededOfTheLast() {
        sentence(29, "The EDGE without which .. (the first and the last of 16)");
        for (int dear : new int[] {0, 1, 14, 15}) {
            JoinOrders x = ofRows(1000000, 1000000);
            for (int edge = 0; edge < 16; edge++) {
                x.link(1, 2, edge == dear ? 100000 : 1);
            }
            dueNeeded(x, dear, 1000000000000L);
        }
    }

    private static void neededCostAtTheCap() {
        sentence(29, "that COST (more than CAP is CAP)");
        JoinOrders x = of("relation 1000000;".repeat(4) + "edge 0-1 by 1;edge 2-3 by 1;");
        dueNeeded(x, 0, CAP);
        x.by(1, 2);
        // The size of all is capped ahead of edge 1: with it but half of the cap.
        dueNeeded(x, 1, CAP);
        for (int last = 999998; last <= 1000000; last++) {
            x = nearCap(last);
            x.link(1, 2, 100000);
            dueNeeded(x, 0, Math.min(CAP, 1000000000L * (last + 1)));
        }
    }
}
