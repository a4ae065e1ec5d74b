/** Promises 6 to 14: each sentence that names a boundary, at it and one beyond it; what refused acts leave. */
public final class ActEdges extends Twins {
    private static final int MIN = Integer.MIN_VALUE;
    private static final int MAX = Integer.MAX_VALUE;

    private ActEdges() {
    }

    public static void main(String[] args) {
        addRows();
        addUpToEight();
        rowsAreOthers();
        rowsRefused();
        linkSets();
        linkSetsRefused();
        linkBy();
        linkUpToSixteen();
        cutEdges();
        cutRefused();
        byIsAnother();
        byRefused();
        limitIsAnother();
        limitRefused();
        limitLeavesThePlan();
        changesLeaveNoPlan();
        chooseByLimit();
        chooseOfManyPairs();
        chooseOfOneAndOfNone();
        stepKinds();
        stepWithoutABetterMove();
        stepAtTheCap();
        stepWithoutAPlan();
        undoOfEachAct();
        undoTheLatestEight();
        undoGoesRound();
        undoRefused();
        refusedActsCanNotBeUndone();
        queryAndAgainLeaveNone();
        end();
    }

    private static long b(boolean v) {
        return v ? 1 : 0;
    }

    // ---- promise 6

    private static void addRows() {
        sentence(6, "NONE: ROWS that can not be (1 to 1000000)");
        for (int rows : new int[] {1, 2, 999999, 1000000}) {
            JoinOrders x = new JoinOrders();
            due("add(" + rows + ")", x.add(rows), 0);
            due("size(1)", x.size(1, false), rows);
        }
        for (int rows : new int[] {0, -1, 1000001, MIN, MAX, -1000000}) {
            refused("add(" + rows + ")", Twins::laden, x -> x.add(rows));
            refused("add(" + rows + ") on a new object", JoinOrders::new, x -> x.add(rows));
        }
    }

    private static void addUpToEight() {
        sentence(6, "its number; NONE: there are 8");
        JoinOrders x = new JoinOrders();
        for (int relation = 0; relation < 8; relation++) {
            due("add", x.add(10 + relation), relation);
            due("count(0)", x.count(0), relation + 1);
            due("size of it", x.size(1 << relation, false), 10 + relation);
        }
        due("a 9th", x.add(5), NONE);
        due("count(0)", x.count(0), 8);
        refused("a 9th", Twins::full, twin -> twin.add(5));
        x.undo();
        due("an 8th again", x.add(99), 7);
        due("size of it", x.size(128, false), 99);
        due("a 9th", x.add(5), NONE);
    }

    // ---- promise 7

    private static void rowsAreOthers() {
        sentence(7, "ROWS of a RELATION are others: true");
        for (int relation = 0; relation < 8; relation++) {
            JoinOrders x = full();
            due("rows(" + relation + ", 1)", x.rows(relation, 1), true);
            due("rows(" + relation + ", 1000000)", x.rows(relation, 1000000), true);
            due("rows(" + relation + ", 999999)", x.rows(relation, 999999), true);
            for (int other = 0; other < 8; other++) {
                due("size of " + other, x.size(1 << other, false), other == relation ? 999999 : 2 + other);
            }
        }
    }

    private static void rowsRefused() {
        sentence(7, "false: they are so, others that can not be");
        refused("rows(0, 10), they are so", Twins::laden, x -> b(x.rows(0, 10)), 0);
        refused("rows(3, 40), they are so", Twins::laden, x -> b(x.rows(3, 40)), 0);
        for (int rows : new int[] {0, -1, 1000001, MIN, MAX}) {
            refused("rows(0, " + rows + ")", Twins::laden, x -> b(x.rows(0, rows)), 0);
        }
        for (int relation : new int[] {-1, 4, 5, 8, 32, MIN, MAX}) {
            refused("rows(" + relation + ", 5)", Twins::laden, x -> b(x.rows(relation, 5)), 0);
        }
        refused("rows(8, 5) of eight", Twins::full, x -> b(x.rows(8, 5)), 0);
        refused("rows(0, 5) of none", JoinOrders::new, x -> b(x.rows(0, 5)), 0);
        JoinOrders x = chain();
        due("rows(0, 11)", x.rows(0, 11), true);
        due("rows(0, 11) again", x.rows(0, 11), false);
        due("rows(0, 10), as at first", x.rows(0, 10), true);
        due("count(9)", x.count(9), 2);
    }

    // ---- promise 8

    private static void linkSets() {
        sentence(8, "a LEFT and a RIGHT SET of RELATIONS, neither empty, with none in common");
        int[][] sets = {{1, 2}, {2, 1}, {1, 8}, {8, 1}, {1, 14}, {14, 1}, {7, 8}, {3, 12}, {10, 5}, {4, 8}};
        for (int[] each : sets) {
            JoinOrders x = chain();
            due("link(" + each[0] + ", " + each[1] + ", 9)", x.link(each[0], each[1], 9), 3);
            due("edge(3, 0)", x.edge(3, 0), each[0]);
            due("edge(3, 1)", x.edge(3, 1), each[1]);
            due("edge(3, 2)", x.edge(3, 2), 9);
            due("joined", x.joined(each[0], each[1]), true);
        }
        JoinOrders x = of("relation 1;".repeat(8));
        due("link(128, 127, 1)", x.link(128, 127, 1), 0);
        due("link(1, 254, 1)", x.link(1, 254, 1), 1);
        due("the same once more", x.link(1, 254, 1), 2);
    }

    private static void linkSetsRefused() {
        sentence(8, "NONE: sets that can not be");
        int[][] sets = {
            {0, 0}, {0, 1}, {1, 0}, {1, 1}, {3, 6}, {15, 15}, {15, 8}, {8, 15}, {15, 0}, {1, 16}, {16, 1}, {1, 18}, {18, 1},
            {1, 256}, {-1, 1}, {1, -1}, {-2, 1}, {1, -2}, {MIN, 1}, {1, MIN}, {MIN | 1, 2}, {MAX, 1}, {1, 1 << 30}
        };
        for (int[] each : sets) {
            refused("link(" + each[0] + ", " + each[1] + ", 9)", Twins::laden, x -> x.link(each[0], each[1], 9));
        }
        refused("link(1, 2, 9) of none", JoinOrders::new, x -> x.link(1, 2, 9));
        JoinOrders one = ofRows(5);
        due("link(1, 2, 9) of one", one.link(1, 2, 9), NONE);
        due("link(1, 1, 9) of one", one.link(1, 1, 9), NONE);
        JoinOrders eight = of("relation 1;".repeat(8));
        due("link(1, 256, 1) of eight", eight.link(1, 256, 1), NONE);
        due("link(256, 1, 1) of eight", eight.link(256, 1, 1), NONE);
        due("link(1, 128, 1) of eight", eight.link(1, 128, 1), 0);
    }

    private static void linkBy() {
        sentence(8, "NONE: BY that can not be (1 to 100000)");
        for (int by : new int[] {1, 2, 99999, 100000}) {
            JoinOrders x = chain();
            due("link(1, 2, " + by + ")", x.link(1, 2, by), 3);
            due("edge(3, 2)", x.edge(3, 2), by);
        }
        for (int by : new int[] {0, -1, 100001, 1000000, MIN, MAX}) {
            refused("link(1, 2, " + by + ")", Twins::laden, x -> x.link(1, 2, by));
        }
    }

    private static void linkUpToSixteen() {
        sentence(8, "its number; NONE: there are 16");
        JoinOrders x = chain();
        for (int edge = 3; edge < 16; edge++) {
            due("link(1, 8, 2)", x.link(1, 8, 2 + edge), edge);
            due("count(1)", x.count(1), edge + 1);
        }
        due("a 17th", x.link(1, 8, 2), NONE);
        due("count(1)", x.count(1), 16);
        due("edge(15, 2)", x.edge(15, 2), 17);
        refused("a 17th", Twins::full, twin -> twin.link(1, 2, 3));
        due("cut(3)", x.cut(3), 15);
        due("a 16th again", x.link(2, 8, 5), 15);
        due("edge(14, 2)", x.edge(14, 2), 17);
        due("edge(15, 0)", x.edge(15, 0), 2);
        due("a 17th", x.link(1, 8, 2), NONE);
    }

    // ---- promise 9

    private static void cutEdges() {
        sentence(9, "An EDGE goes (those behind it come up): how many there are");
        for (int edge = 0; edge < 16; edge++) {
            JoinOrders x = full();
            JoinOrders as = full();
            due("cut(" + edge + ")", x.cut(edge), 15);
            due("count(1)", x.count(1), 15);
            for (int e = 0; e < 15; e++) {
                for (int what = 0; what < 3; what++) {
                    due("edge(" + e + ", " + what + ") behind cut(" + edge + ")", x.edge(e, what), as.edge(e < edge ? e : e + 1, what));
                }
            }
            dueNoSuchElement("edge(15, 0)", () -> x.edge(15, 0));
        }
        JoinOrders x = full();
        for (int left = 15; left >= 0; left--) {
            due("cut(0)", x.cut(0), left);
        }
        due("cut(0) of none", x.cut(0), NONE);
    }

    private static void cutRefused() {
        sentence(9, "NONE: there is none such");
        for (int edge : new int[] {-1, 3, 4, 15, 16, MIN, MAX}) {
            refused("cut(" + edge + ") of three", Twins::laden, x -> x.cut(edge));
        }
        refused("cut(16) of sixteen", Twins::full, x -> x.cut(16));
        refused("cut(0) of none", JoinOrders::new, x -> x.cut(0));
        JoinOrders x = chain();
        due("cut(2), the last one", x.cut(2), 2);
        due("cut(2), there is none such any more", x.cut(2), NONE);
    }

    // ---- promise 10

    private static void byIsAnother() {
        sentence(10, "BY of an EDGE is another one: true");
        for (int edge = 0; edge < 16; edge++) {
            JoinOrders x = full();
            due("by(" + edge + ", 1)", x.by(edge, 1), true);
            due("by(" + edge + ", 100000)", x.by(edge, 100000), true);
            due("by(" + edge + ", 99999)", x.by(edge, 99999), true);
            for (int other = 0; other < 16; other++) {
                due("edge(" + other + ", 2)", x.edge(other, 2), other == edge ? 99999 : 2 + other % 3);
            }
        }
    }

    private static void byRefused() {
        sentence(10, "false: it is so, one that can not be");
        refused("by(0, 2), it is so", Twins::laden, x -> b(x.by(0, 2)), 0);
        refused("by(2, 5), it is so", Twins::laden, x -> b(x.by(2, 5)), 0);
        for (int by : new int[] {0, -1, 100001, 1000000, MIN, MAX}) {
            refused("by(0, " + by + ")", Twins::laden, x -> b(x.by(0, by)), 0);
        }
        for (int edge : new int[] {-1, 3, 15, 16, MIN, MAX}) {
            refused("by(" + edge + ", 9)", Twins::laden, x -> b(x.by(edge, 9)), 0);
        }
        refused("by(16, 9) of sixteen", Twins::full, x -> b(x.by(16, 9)), 0);
        refused("by(0, 9) of none", JoinOrders::new, x -> b(x.by(0, 9)), 0);
    }

    // ---- promise 11

    private static void limitIsAnother() {
        sentence(11, "LIMIT is another one: true (0 to 5000, 1000 at first)");
        JoinOrders x = new JoinOrders();
        due("count(2) at first", x.count(2), 1000);
        for (int v : new int[] {0, 1, 999, 1000, 1001, 4999, 5000, 0}) {
            due("limit(" + v + ")", x.limit(v), true);
            due("count(2)", x.count(2), v);
        }
    }

    private static void limitRefused() {
        sentence(11, "false: it is so, one that can not be");
        refused("limit(3), it is so", Twins::laden, x -> b(x.limit(3)), 0);
        refused("limit(1000) on a new object", JoinOrders::new, x -> b(x.limit(1000)), 0);
        for (int v : new int[] {-1, -2, 5001, 10000, MIN, MAX}) {
            refused("limit(" + v + ")", Twins::laden, x -> b(x.limit(v)), 0);
            refused("limit(" + v + ") on a new object", JoinOrders::new, x -> b(x.limit(v)), 0);
        }
    }

    private static void limitLeavesThePlan() {
        sentence(11, "(THE PLAN stays.)");
        JoinOrders x = trap();
        planned(x, "((0 (1 2)) 3)");
        due("limit(0)", x.limit(0), true);
        due("told", toldBy(x), "((0 (1 2)) 3)");
        due("cost()", x.cost(), 5550);
        due("undo() of it", x.undo(), 1);
        due("told", toldBy(x), "((0 (1 2)) 3)");
    }

    private static void changesLeaveNoPlan() {
        sentence(6, "A change of RELATIONS, EDGES: there is none any more");
        Act[] changes = {
            x -> x.add(5), x -> b(x.rows(0, 11)), x -> x.link(1, 8, 2), x -> x.cut(0), x -> b(x.by(0, 3))
        };
        for (Act change : changes) {
            JoinOrders x = chain();
            planned(x, "(2 3)");
            change.on(x);
            due("count(7)", x.count(7), NONE);
            due("count(8)", x.count(8), NONE);
            due("cost()", x.cost(), NONE);
            due("told(NONE)", x.told(NONE), NONE);
            due("move(NONE)", x.move(NONE), NONE);
            due("steps()", x.steps(), NONE);
            due("step()", x.step(), NONE);
            dueNoSuchElement("node(0, 0)", () -> x.node(0, 0));
            due("undo()", x.undo(), 1);
            due("told behind undo()", toldBy(x), "(2 3)");
        }
    }

    // ---- promise 12

    private static void chooseByLimit() {
        sentence(12, "CHOSEN: BEST, if there are no more PAIRS than LIMIT, else GREEDY");
        for (int limit : new int[] {0, 8, 9, 10, 11, 5000}) {
            JoinOrders x = trap();
            due("count(4)", x.count(4), 10);
            x.limit(limit);
            due("choose() with limit " + limit, x.choose(), limit < 10 ? 1 : 0);
            due("told", toldBy(x), limit < 10 ? "((0 (1 2)) 3)" : "((0 1) (2 3))");
        }
        JoinOrders x = ofRows(5, 6);
        x.limit(0);
        due("choose() with limit 0 without pairs", x.choose(), 0);
        x.link(1, 2, 1);
        due("choose() with limit 0 and one pair", x.choose(), 1);
        x.limit(1);
        due("choose() with limit 1 and one pair", x.choose(), 0);
    }

    private static void chooseOfManyPairs() {
        sentence(12, "no more PAIRS than LIMIT, of eight RELATIONS");
        JoinOrders x = of("relation 2;".repeat(8));
        for (int leaf = 1; leaf < 8; leaf++) {
            x.link(1, 1 << leaf, 1);
        }
        due("count(4) of a star", x.count(4), 448);
        x.limit(447);
        due("choose()", x.choose(), 1);
        x.limit(448);
        due("choose()", x.choose(), 0);
        x.limit(449);
        due("choose()", x.choose(), 0);
    }

    private static void chooseOfOneAndOfNone() {
        sentence(12, "NONE: there are no RELATIONS");
        refused("choose() on a new object", JoinOrders::new, JoinOrders::choose);
        JoinOrders x = new JoinOrders();
        x.limit(0);
        due("choose() with limit 0", x.choose(), NONE);
        due("count(9)", x.count(9), 1);
        x.add(5);
        due("choose() of one", x.choose(), 0);
        due("count(7)", x.count(7), 0);
        due("count(9)", x.count(9), 3);
        due("undo()", x.undo(), 2);
        due("count(7)", x.count(7), NONE);
        due("undo()", x.undo(), 1);
        due("choose() of none again", x.choose(), NONE);
    }

    // ---- promise 13

    private static void stepKinds() {
        sentence(13, "1 + its kind: 0 A with (B with C), 1 B with (A with C)");
        JoinOrders x = of("relation 10;relation 10;relation 10;edge 1-2 by 10;edge 0-1 by 2;");
        planned(x, "((0 1) 2)");
        due("step() of kind 0", x.step(), 1);
        due("told", toldBy(x), "(0 (1 2))");
        due("count(9)", x.count(9), 2);
        x = of("relation 10;relation 10;relation 10;edge 0-2 by 10;edge 0-1 by 2;");
        planned(x, "((0 1) 2)");
        due("step() of kind 1", x.step(), 2);
        due("told", toldBy(x), "((0 2) 1)");
        due("count(9)", x.count(9), 2);
    }

    private static void stepWithoutABetterMove() {
        sentence(13, "0: no MOVE is BETTER (it is no ACT)");
        Start best = () -> {
            JoinOrders x = trap();
            x.image(1);
            x.choose();
            return x;
        };
        refused("step() of the best", best, JoinOrders::step, 0);
        Start likeOnes = () -> {
            JoinOrders x = ofRows(2, 2, 2);
            planned(x, "((0 1) 2)");
            return x;
        };
        due("move(0), as dear", likeOnes.make().move(0), likeOnes.make().cost());
        refused("step() where all moves are as dear", likeOnes, JoinOrders::step, 0);
        Start oneJoin = () -> {
            JoinOrders x = chain();
            planned(x, "(0 3)");
            return x;
        };
        refused("step() of one join", oneJoin, JoinOrders::step, 0);
        Start oneRelation = () -> {
            JoinOrders x = chain();
            planned(x, "2");
            return x;
        };
        refused("step() of one relation", oneRelation, JoinOrders::step, 0);
        JoinOrders x = ofRows(1, 99, 100);
        planned(x, "((0 2) 1)");
        due("step() to a cost that is 1 less", x.step(), 2);
        due("told", toldBy(x), "((0 1) 2)");
        x = ofRows(1, 100, 100);
        planned(x, "((0 2) 1)");
        due("step() to a cost that is the same", x.step(), 0);
    }

    /** More than CAP is CAP: of two that are both so neither is better, unless it has fewer crosses. */
    private static void stepAtTheCap() {
        sentence(13, "BETTER is a PLAN with fewer CROSSES, or as many and less COST (more than CAP is CAP)");
        JoinOrders x = ofRows(1000000, 1000000, 1000000, 1);
        planned(x, "(((0 1) 2) 3)");
        due("cost()", x.cost(), CAP);
        due("step(), all are capped", x.step(), 0);
        due("steps()", x.steps(), 0);
        x.link(1, 4, 1);
        x.link(2, 4, 1);
        planned(x, "(((0 1) 2) 3)");
        due("count(8)", x.count(8), 2);
        due("step(), one with fewer crosses", x.step(), 1);
        due("told", toldBy(x), "((0 (1 2)) 3)");
        due("count(8)", x.count(8), 1);
        due("cost()", x.cost(), CAP);
        x = ofRows(100000, 100000, 99999);
        planned(x, "((0 1) 2)");
        due("cost() that just is the cap", x.cost(), CAP);
        due("step() to less", x.step(), 1);
        due("cost()", x.cost(), 999999999900000L);
        x = ofRows(100000, 100001, 100000);
        planned(x, "((0 1) 2)");
        due("step(), all are more than the cap", x.step(), 0);
    }

    private static void stepWithoutAPlan() {
        sentence(13, "NONE: there is no PLAN");
        refused("step() on a new object", JoinOrders::new, JoinOrders::step);
        refused("step() without a plan", Testing::chain, JoinOrders::step);
        Start gone = () -> {
            JoinOrders x = laden();
            x.rows(0, 99);
            return x;
        };
        refused("step() behind a change", gone, JoinOrders::step);
    }

    // ---- promise 14

    /** Each kind of act behind a plan: undone, all is as ahead of it. */
    private static void undoOfEachAct() {
        sentence(14, "The latest ACT is UNDONE (THE PLAN, too)");
        Act[] acts = {
            x -> x.add(5), x -> b(x.rows(0, 11)), x -> x.link(1, 8, 2), x -> x.cut(0), x -> b(x.by(0, 3)),
            x -> b(x.limit(77)), x -> planned(x, "(1 0)"), JoinOrders::choose, JoinOrders::step
        };
        for (Act act : acts) {
            JoinOrders x = undoStart();
            JoinOrders as = undoStart();
            due("the act is not refused", act.on(x) >= 0, true);
            due("count(9)", x.count(9), 3);
            due("undo()", x.undo(), 2);
            due("all behind it", Answers.of(x, true), Answers.of(as, true));
            due("undo() of those ahead", x.undo(), 1);
            due("undo() of those ahead", x.undo(), 0);
            due("undo()", x.undo(), NONE);
            due("all behind them", Answers.of(x, false), Answers.of(chain(), false));
        }
    }

    private static JoinOrders undoStart() {
        JoinOrders x = chain();
        x.limit(5);
        planned(x, "(((0 3) 1) 2)");
        return x;
    }

    private static void undoTheLatestEight() {
        sentence(14, "ACTS that can be UNDONE, the latest 8; how many more can be");
        for (int acts = 0; acts <= 20; acts++) {
            JoinOrders x = new JoinOrders();
            for (int i = 1; i <= acts; i++) {
                x.limit(i);
            }
            int can = Math.min(acts, 8);
            due("count(9) of " + acts, x.count(9), can);
            for (int left = can - 1; left >= 0; left--) {
                due("undo() of " + acts, x.undo(), left);
                int ahead = acts - can + left;
                due("count(2)", x.count(2), ahead == 0 ? 1000 : ahead);
                due("count(9)", x.count(9), left);
            }
            due("undo() of more", x.undo(), NONE);
            due("count(9)", x.count(9), 0);
        }
    }

    /** Acts and undos by turns, each number of both, so that what is kept goes round more than once. */
    private static void undoGoesRound() {
        sentence(14, "the latest 8, made and undone by turns");
        for (int more = 1; more <= 9; more++) {
            for (int back = 1; back <= 8; back++) {
                goRound(more, back);
            }
        }
    }

    private static void goRound(int more, int back) {
        JoinOrders x = new JoinOrders();
        int[] limits = new int[500];
        limits[0] = 1000;
        int at = 0;
        int can = 0;
        for (int turn = 0; turn < 10; turn++) {
            for (int i = 0; i < more; i++) {
                at++;
                limits[at] = turn * 20 + i;
                x.limit(limits[at]);
                can = Math.min(can + 1, 8);
            }
            for (int i = 0; i < back; i++) {
                int want = can == 0 ? NONE : can - 1;
                due("undo() of " + more + " and " + back, x.undo(), want);
                at -= can == 0 ? 0 : 1;
                can = Math.max(can - 1, 0);
            }
            due("count(2) of " + more + " and " + back, x.count(2), limits[at]);
            due("count(9) of " + more + " and " + back, x.count(9), can);
        }
    }

    private static void undoRefused() {
        sentence(14, "NONE: none can");
        refused("undo() on a new object", JoinOrders::new, JoinOrders::undo);
        refused("undo() behind a query", Testing::chain, JoinOrders::undo);
        Start allUndone = () -> {
            JoinOrders x = laden();
            for (int i = 0; i < 8; i++) {
                x.undo();
            }
            return x;
        };
        refused("undo() of more than all", allUndone, JoinOrders::undo);
        Start kept = () -> {
            JoinOrders x = laden();
            x.again(2);
            return x;
        };
        refused("undo() behind again()", kept, JoinOrders::undo);
    }

    private static void refusedActsCanNotBeUndone() {
        sentence(14, "ACTS .. that were not refused");
        JoinOrders x = chain();
        x.limit(5);
        x.add(0);
        x.rows(0, 10);
        x.rows(0, 0);
        x.link(1, 1, 1);
        x.link(1, 2, 0);
        x.cut(3);
        x.by(0, 2);
        x.by(0, 0);
        x.limit(5);
        x.limit(5001);
        x.plan();
        x.step();
        x.image(0);
        x.image(3);
        x.again(1);
        x.query();
        x.again(0);
        due("count(9) behind again(0)", x.count(9), 0);
        x.limit(6);
        x.choose();
        x.step();
        due("count(9), step() answers 0", x.count(9), 2);
        due("undo() of choose()", x.undo(), 1);
        due("undo() of limit(6)", x.undo(), 0);
        due("count(2)", x.count(2), 5);
    }

    private static void queryAndAgainLeaveNone() {
        sentence(14, "query() without a FAULT, again() leave none");
        JoinOrders x = laden();
        due("count(9)", x.count(9), 8);
        x.query();
        due("count(9) behind query() with a fault", x.count(9), 8);
        due("again(1), there is none such", x.again(1), false);
        due("count(9)", x.count(9), 8);
        due("image(1)", x.image(1), true);
        due("count(9)", x.count(9), 8);
        due("again(1)", x.again(1), true);
        due("count(9)", x.count(9), 0);
        due("undo()", x.undo(), NONE);
        x = laden();
        x.plan();
        due("query() of nothing", x.query(), 0);
        due("count(9)", x.count(9), 0);
        due("undo()", x.undo(), NONE);
    }
}
