import java.util.NoSuchElementException;

/** For each promise of the document: ordinary calls, the edges that it names, and wrong ones. */
public final class PromiseTest extends Testing {
    private PromiseTest() {
    }

    public static void main(String[] args) {
        newObject();
        type();
        query();
        queryFaultsOfForm();
        queryBehindLongerText();
        queryOtherFaults();
        plan();
        fault();
        add();
        rows();
        link();
        cut();
        by();
        limit();
        choose();
        step();
        undo();
        undoLeavesTextAndFault();
        count();
        edge();
        size();
        connected();
        joined();
        pair();
        best();
        bestOfTies();
        greedy();
        node();
        cost();
        told();
        move();
        steps();
        would();
        needed();
        image();
        again();
        allStrangeArguments();
        end();
    }

    // ---- the promises

    private static void newObject() {
        promise(1);
        JoinOrders x = new JoinOrders();
        due("count(0)", x.count(0), 0);
        due("count(1)", x.count(1), 0);
        due("count(2)", x.count(2), 1000);
        due("count(3)", x.count(3), 0);
        due("count(4)", x.count(4), 0);
        due("count(5)", x.count(5), 0);
        due("count(6)", x.count(6), 0);
        due("count(7)", x.count(7), NONE);
        due("count(8)", x.count(8), NONE);
        due("count(9)", x.count(9), 0);
        due("count(10)", x.count(10), 0);
        due("count(11)", x.count(11), 0);
        due("fault(false)", x.fault(false), 0);
        due("fault(true)", x.fault(true), NONE);
        due("NONE", JoinOrders.NONE, -1);
        JoinOrders other = new JoinOrders();
        x.add(5);
        due("another object's count(0)", other.count(0), 0);
    }

    private static void type() {
        promise(2);
        JoinOrders x = new JoinOrders();
        due("type(0)", x.type(0), 0);
        due("type of one byte", x.type(0x6100000000000000L), 1);
        due("type of bytes behind a 0", x.type(0x6100626262626262L), 2);
        due("type of a 0 ahead", x.type(0x0062626262626262L), 2);
        due("type of high bytes", x.type(-1L), 10);
        for (int i = 0; i < 61; i++) {
            x.type(0x2020202020202020L);
        }
        due("count(10)", x.count(10), 498);
        due("type of 3 bytes more", x.type(0x2020200000000000L), NONE);
        due("count(10) behind it", x.count(10), 498);
        due("type of 2 bytes more", x.type(0x2020000000000000L), 500);
        due("type of none more", x.type(0L), 500);
        due("type of 1 more", x.type(0x2000000000000000L), NONE);
        due("type of 8 more", x.type(-1L), NONE);
        due("query()", x.query(), NONE);
        due("count(10) behind query()", x.count(10), 0);
        due("type then", x.type(0x2000000000000000L), 1);
    }

    private static void query() {
        promise(3);
        JoinOrders x = new JoinOrders();
        due("query() of nothing", x.query(), 0);
        due("query() of blanks", queried(x, " \n "), 0);
        due("query()", queried(x, "relation 5;relation\n0000007 ; edge0-1by00003;limit 7;limit 9;"), 2);
        due("count(10)", x.count(10), 0);
        due("count(2), the later one", x.count(2), 9);
        due("size(1)", x.size(1, false), 5);
        due("size(2)", x.size(2, false), 7);
        due("edge(0, 2)", x.edge(0, 2), 3);
        due("query() of sets", queried(x, "relation 1;relation 1;relation 1;relation 1;edge 3 0 - 2 1 by 1;"), 4);
        due("edge(0, 0)", x.edge(0, 0), 9);
        due("edge(0, 1)", x.edge(0, 1), 6);
        due("count(2), as at first", x.count(2), 1000);
        x.limit(5);
        x.choose();
        due("query() with a fault", queried(x, "relation 0;"), NONE);
        due("count(0) stays", x.count(0), 4);
        due("count(2) stays", x.count(2), 5);
        due("count(7) stays", x.count(7), 3);
        due("count(9) stays", x.count(9), 2);
        due("count(10) does not", x.count(10), 0);
        due("query() of one", queried(x, "relation 1000000;"), 1);
        due("count(7) goes", x.count(7), NONE);
        due("count(9) goes", x.count(9), 0);
        due("undo()", x.undo(), NONE);
        due("edges and a relation in between", queried(x, "relation 5;relation 6;edge 0-1 by 2;relation 7;edge 2-0 by 100000;"), 3);
        due("count(1)", x.count(1), 2);
        due("the most", queried(x, "relation 5;".repeat(8) + "edge0-1by2;".repeat(16)), 8);
        due("count(1) then", x.count(1), 16);
        due("limits at the ends", queried(x, "limit 5000;limit 0;"), 0);
        due("count(2) then", x.count(2), 0);
    }

    private static void queryFaultsOfForm() {
        promise(3);
        faulty("foo 1;", 1, 0);
        faulty("  foo 1;", 1, 2);
        faulty("relations 1;", 1, 0);
        faulty("relationz 1;", 1, 0);
        faulty("relationa 1;", 1, 0);
        faulty("relatio 1;", 1, 0);
        faulty("by 1;", 1, 0);
        faulty(";", 1, 0);
        faulty("5;", 1, 0);
        faulty("(", 1, 0);
        faulty("relation 5", 1, 10);
        faulty("relation 5 \n", 1, 12);
        faulty("relation", 1, 8);
        faulty("relation;", 1, 8);
        faulty("relation 5 5;", 1, 11);
        faulty("relation 5;;", 1, 11);
        faulty("relation 12345678;", 1, 9);
        faulty("relation 00000005;", 1, 9);
        faulty("relation\t5;", 1, 8);
        faulty("relation -5;", 1, 9);
        faulty("Relation 5;", 1, 0);
        faulty("relation 5;\u00ff", 1, 11);
        faulty("relation 5;relation 5;edge 0 1 by 2;", 1, 31);
        faulty("relation 5;relation 5;edge - 1 by 2;", 1, 27);
        faulty("relation 5;relation 5;edge 0 - by 2;", 1, 31);
        faulty("relation 5;relation 5;edge 0 - 1 - 1 by 2;", 1, 33);
        faulty("relation 5;relation 5;edge 0 - 1 2;", 1, 34);
        faulty("relation 5;relation 5;edge 0 - 1 by;", 1, 35);
        faulty("relation 5;relation 5;edge 0 - 1 bye 2;", 1, 33);
        faulty("relation 5;relation 5;edge 0 - 1 by 2", 1, 37);
        faulty("limit;", 1, 5);
        faulty("limit 5 limit 6;", 1, 8);
        faulty("relation 0;foo", 1, 11);
        faulty("edge 5 - 5 by 0;relation", 1, 24);
    }

    /** Of a text that is gone nothing may be read any more. */
    private static void queryBehindLongerText() {
        promise(3);
        JoinOrders x = new JoinOrders();
        queried(x, "relationrelation");
        due("query() of relation", queried(x, "relation"), NONE);
        due("fault(true) of relation", x.fault(true), 8);
        queried(x, "relation 55555555555;;;;");
        due("query() of relation 5", queried(x, "relation 5"), NONE);
        due("fault(true) of relation 5", x.fault(true), 10);
        queried(x, "a".repeat(500));
        due("fault(true) of 500 letters", x.fault(true), 0);
        queried(x, "relation" + " ".repeat(485) + "1234567");
        due("fault(true) of 500 bytes that end with a number", x.fault(true), 500);
        queried(x, " ".repeat(492) + "relation");
        due("fault(true) of 500 bytes that end with a word", x.fault(true), 500);
        due("query() of 500 blanks", queried(x, " ".repeat(500)), 0);
    }

    private static void queryOtherFaults() {
        promise(3);
        faulty("relation 0;", 2, 9);
        faulty("relation 1000001;", 2, 9);
        faulty("relation 9999999;", 2, 9);
        faulty("limit 5001;", 2, 6);
        faulty("limit 5001;limit 1;relation 0;", 2, 6);
        faulty("edge 0 - 1 by 5;", 2, 5);
        faulty("relation 5;edge 0 - 1 by 5;relation 5;", 2, 20);
        faulty("relation 5;edge 0 - 0 by 2;", 3, 20);
        faulty("relation 5;relation 5;edge 0 0 - 1 by 2;", 3, 29);
        faulty("relation 5;relation 5;edge 0 - 1 1 by 2;", 3, 33);
        faulty("relation 5;relation 5;edge 0 - 1 0 by 0;", 3, 33);
        faulty("relation 5;relation 5;edge 0 - 1 by 0;", 2, 36);
        faulty("relation 5;relation 5;edge 0 - 1 by 100001;", 2, 36);
        faulty("relation 5;edge 7 7 - 0 by 2;", 2, 16);
        faulty("relation 5;".repeat(8) + "relation 5;", 4, 88);
        faulty("relation 5;".repeat(8) + "relation 0;", 4, 88);
        faulty("relation 0;" + "relation 5;".repeat(8), 2, 9);
        faulty("relation 5;relation 5;" + "edge0-1by2;".repeat(16) + "edge5-5by0;", 4, 22 + 16 * 11);
        faulty("relation 5;relation 5;" + "edge0-1by2;".repeat(16) + " edge", 1, 22 + 16 * 11 + 5);
    }

    private static void plan() {
        promise(4);
        JoinOrders x = chain();
        due("plan()", planned(x, "((3 1)( 00 2)\n)"), 3);
        due("told", toldBy(x), "((0 2) (1 3))");
        due("count(9)", x.count(9), 1);
        notPlanned(x, "", 1, 0);
        notPlanned(x, " ", 1, 1);
        notPlanned(x, "0 1", 1, 2);
        notPlanned(x, "(0)", 1, 2);
        notPlanned(x, "()", 1, 1);
        notPlanned(x, "(0 1", 1, 4);
        notPlanned(x, "(0 1 2)", 1, 5);
        notPlanned(x, "(0 1))", 1, 5);
        notPlanned(x, "(0 1)2", 1, 5);
        notPlanned(x, "(0-1)", 1, 2);
        notPlanned(x, "relation", 1, 0);
        notPlanned(x, "(0 00000001)", 1, 3);
        notPlanned(x, ")", 1, 0);
        notPlanned(x, "(".repeat(500), 1, 500);
        notPlanned(x, "(0 4)", 2, 3);
        notPlanned(x, "9999999", 2, 0);
        notPlanned(x, "(0 0)", 3, 3);
        notPlanned(x, "((0 1)(1 9))", 3, 7);
        notPlanned(x, "((0 9)(1 1))", 2, 4);
        notPlanned(x, "(9 (0 0)", 1, 8);
        notPlanned(x, "(0 ".repeat(99) + "0" + ")".repeat(99), 3, 4);
        due("told stays", toldBy(x), "((0 2) (1 3))");
        due("count(9) stays", x.count(9), 1);
        due("plan() of some", planned(x, "(3 1)"), 1);
        due("count(7)", x.count(7), 1);
        due("plan() of one", planned(x, " 2 "), 0);
        due("count(7) of one", x.count(7), 0);
        due("count(8) of one", x.count(8), 0);
        due("cost() of one", x.cost(), 0);
        due("fault(false)", x.fault(false), 0);
        due("plan() of eight", planned(eight(), "(7(6(5(4(3(2(1 0)))))))"), 7);
        notPlanned(new JoinOrders(), "0", 2, 0);
    }

    private static void fault() {
        promise(5);
        JoinOrders x = new JoinOrders();
        queried(x, "relation 5;x");
        due("fault(false) of query()", x.fault(false), 1);
        due("fault(true) of query()", x.fault(true), 11);
        typed(x, "  ");
        x.add(4);
        due("fault(false) behind type() and add()", x.fault(false), 1);
        due("plan()", x.plan(), NONE);
        due("fault(true) of plan()", x.fault(true), 2);
        due("plan()", planned(x, "0"), 0);
        due("fault(false) without", x.fault(false), 0);
        due("fault(true) without", x.fault(true), NONE);
    }

    private static void add() {
        promise(6);
        JoinOrders x = new JoinOrders();
        due("add(0)", x.add(0), NONE);
        due("add(-1)", x.add(-1), NONE);
        due("add(1000001)", x.add(1000001), NONE);
        due("add(1)", x.add(1), 0);
        due("add(1000000)", x.add(1000000), 1);
        x.choose();
        due("add(0)", x.add(0), NONE);
        due("count(7) stays", x.count(7), 1);
        due("add(3)", x.add(3), 2);
        due("count(7) goes", x.count(7), NONE);
        for (int i = 3; i < 8; i++) {
            due("add(9)", x.add(9), i);
        }
        due("a 9th", x.add(9), NONE);
        due("count(0)", x.count(0), 8);
        due("count(9)", x.count(9), 8);
        due("size(4)", x.size(4, false), 3);
    }

    private static void rows() {
        promise(7);
        JoinOrders x = chain();
        x.choose();
        due("rows(0, 10), they are so", x.rows(0, 10), false);
        due("rows(0, 0)", x.rows(0, 0), false);
        due("rows(0, 1000001)", x.rows(0, 1000001), false);
        due("rows(4, 5)", x.rows(4, 5), false);
        due("rows(-1, 5)", x.rows(-1, 5), false);
        due("count(7) stays", x.count(7), 3);
        due("count(9) stays", x.count(9), 1);
        due("rows(0, 1000000)", x.rows(0, 1000000), true);
        due("size(3)", x.size(3, false), 10000000);
        due("count(7) goes", x.count(7), NONE);
        due("rows(3, 1)", x.rows(3, 1), true);
        due("size(8)", x.size(8, false), 1);
        due("count(9)", x.count(9), 3);
    }

    private static void link() {
        promise(8);
        JoinOrders x = new JoinOrders();
        due("link(1, 2, 1) without relations", x.link(1, 2, 1), NONE);
        for (int i = 0; i < 4; i++) {
            x.add(10);
        }
        x.choose();
        due("link(0, 1, 1)", x.link(0, 1, 1), NONE);
        due("link(1, 0, 1)", x.link(1, 0, 1), NONE);
        due("link(3, 6, 1)", x.link(3, 6, 1), NONE);
        due("link(1, 16, 1)", x.link(1, 16, 1), NONE);
        due("link(16, 1, 1)", x.link(16, 1, 1), NONE);
        due("link(-8, 1, 1)", x.link(-8, 1, 1), NONE);
        due("link(1, MIN, 1)", x.link(1, Integer.MIN_VALUE, 1), NONE);
        due("link(1, 2, 0)", x.link(1, 2, 0), NONE);
        due("link(1, 2, 100001)", x.link(1, 2, 100001), NONE);
        due("count(7) stays", x.count(7), 3);
        due("link(9, 6, 100000)", x.link(9, 6, 100000), 0);
        due("count(7) goes", x.count(7), NONE);
        due("joined(9, 6)", x.joined(9, 6), true);
        for (int i = 1; i < 16; i++) {
            due("link(1, 2, 1)", x.link(1, 2, 1), i);
        }
        due("a 17th", x.link(1, 2, 1), NONE);
        due("count(1)", x.count(1), 16);
    }

    private static void cut() {
        promise(9);
        JoinOrders x = chain();
        x.choose();
        due("cut(-1)", x.cut(-1), NONE);
        due("cut(3)", x.cut(3), NONE);
        due("count(7) stays", x.count(7), 3);
        due("cut(1)", x.cut(1), 2);
        due("count(7) goes", x.count(7), NONE);
        due("edge(0, 2)", x.edge(0, 2), 2);
        due("edge(1, 0)", x.edge(1, 0), 4);
        due("edge(1, 1)", x.edge(1, 1), 8);
        due("edge(1, 2)", x.edge(1, 2), 4);
        due("cut(1)", x.cut(1), 1);
        due("cut(0)", x.cut(0), 0);
        due("cut(0)", x.cut(0), NONE);
        due("size(15)", x.size(15, false), 240000);
        JoinOrders full = of("relation 5;relation 5;" + "edge0-1by2;".repeat(16));
        due("cut(15) of 16", full.cut(15), 15);
        due("cut(0) of 15", full.cut(0), 14);
    }

    private static void by() {
        promise(10);
        JoinOrders x = chain();
        x.choose();
        due("by(0, 2), it is so", x.by(0, 2), false);
        due("by(0, 0)", x.by(0, 0), false);
        due("by(0, 100001)", x.by(0, 100001), false);
        due("by(3, 2)", x.by(3, 2), false);
        due("by(-1, 2)", x.by(-1, 2), false);
        due("count(7) stays", x.count(7), 3);
        due("by(0, 1)", x.by(0, 1), true);
        due("size(3)", x.size(3, false), 200);
        due("count(7) goes", x.count(7), NONE);
        due("by(2, 100000)", x.by(2, 100000), true);
        due("size(12)", x.size(12, false), 1);
        due("count(9)", x.count(9), 3);
    }

    private static void limit() {
        promise(11);
        JoinOrders x = chain();
        x.choose();
        due("limit(1000), it is so", x.limit(1000), false);
        due("limit(-1)", x.limit(-1), false);
        due("limit(5001)", x.limit(5001), false);
        due("count(9) stays", x.count(9), 1);
        due("limit(0)", x.limit(0), true);
        due("count(2)", x.count(2), 0);
        due("limit(5000)", x.limit(5000), true);
        due("count(7) stays", x.count(7), 3);
        due("count(9)", x.count(9), 3);
    }

    private static void choose() {
        promise(12);
        JoinOrders x = new JoinOrders();
        due("choose() without relations", x.choose(), NONE);
        due("count(9)", x.count(9), 0);
        x.add(7);
        due("choose() of one", x.choose(), 0);
        due("told of one", toldBy(x), "0");
        x = trap();
        due("count(4)", x.count(4), 10);
        x.limit(10);
        due("choose(), as many as the limit", x.choose(), 0);
        due("told", toldBy(x), "((0 1) (2 3))");
        x.limit(9);
        due("told stays", toldBy(x), "((0 1) (2 3))");
        due("choose(), more than the limit", x.choose(), 1);
        due("told", toldBy(x), "((0 (1 2)) 3)");
        due("count(9)", x.count(9), 4);
        due("choose() once more", x.choose(), 1);
        due("count(9) once more", x.count(9), 5);
        x = new JoinOrders();
        x.add(2);
        x.add(3);
        x.limit(0);
        due("choose() without pairs", x.choose(), 0);
        due("count(8)", x.count(8), 1);
    }

    private static void step() {
        promise(13);
        JoinOrders x = trap();
        due("step() without a plan", x.step(), NONE);
        planned(x, "(((0 1) 2) 3)");
        due("step() of kind 0", x.step(), 1);
        due("told", toldBy(x), "((0 1) (2 3))");
        due("count(9)", x.count(9), 2);
        due("step() when none is better", x.step(), 0);
        due("count(9) stays", x.count(9), 2);
        planned(x, "((0 (1 2)) 3)");
        due("step(), a move with less cost but a cross", x.step(), 0);
        x = of("relation 10;relation 10;relation 10;edge 0-2 by 10;edge 0-1 by 2;");
        planned(x, "((0 1) 2)");
        due("step() of kind 1", x.step(), 2);
        due("told", toldBy(x), "((0 2) 1)");
        planned(x, "2");
        due("step() of one relation", x.step(), 0);
        planned(x, "(1 2)");
        due("step() of one join", x.step(), 0);
        x = of("relation 1;relation 5;relation 5;edge 1-2 by 1;edge 0-2 by 1;");
        planned(x, "((0 1) 2)");
        due("step() to fewer crosses, dearer", x.step(), 2);
        due("told", toldBy(x), "((0 2) 1)");
        x = of("relation 1;relation 1;relation 1;edge 0-2 by 1;edge 1-2 by 1;");
        planned(x, "((0 1) 2)");
        due("step(), of like ones the first", x.step(), 1);
        due("told", toldBy(x), "(0 (1 2))");
    }

    private static void undo() {
        promise(14);
        JoinOrders x = new JoinOrders();
        due("undo() of nothing", x.undo(), NONE);
        x.add(10);
        x.add(20);
        x.link(1, 2, 5);
        x.choose();
        x.rows(0, 11);
        x.by(0, 6);
        x.cut(0);
        x.limit(7);
        due("count(9)", x.count(9), 8);
        due("undo() of limit()", x.undo(), 7);
        due("count(2)", x.count(2), 1000);
        due("undo() of cut()", x.undo(), 6);
        due("edge(0, 2)", x.edge(0, 2), 6);
        due("undo() of by()", x.undo(), 5);
        due("edge(0, 2)", x.edge(0, 2), 5);
        due("count(7)", x.count(7), NONE);
        due("undo() of rows()", x.undo(), 4);
        due("size(1)", x.size(1, false), 10);
        due("count(7), the plan too", x.count(7), 1);
        due("cost()", x.cost(), 40);
        due("undo() of choose()", x.undo(), 3);
        due("count(7)", x.count(7), NONE);
        due("undo() of link()", x.undo(), 2);
        due("count(1)", x.count(1), 0);
        due("undo() of add()", x.undo(), 1);
        due("undo() of add()", x.undo(), 0);
        due("count(0)", x.count(0), 0);
        due("undo()", x.undo(), NONE);
        x = trap();
        planned(x, "(((0 1) 2) 3)");
        x.step();
        due("undo() of step()", x.undo(), 1);
        due("told", toldBy(x), "(((0 1) 2) 3)");
        for (int i = 1; i <= 20; i++) {
            x.limit(i);
        }
        due("count(9), the latest 8", x.count(9), 8);
        for (int i = 7; i >= 0; i--) {
            due("undo()", x.undo(), i);
            due("count(2)", x.count(2), 13 + i - 1);
        }
        due("undo() of more", x.undo(), NONE);
    }

    private static void undoLeavesTextAndFault() {
        promise(14);
        JoinOrders x = chain();
        planned(x, "(0 1)");
        planned(x, "(1 2)");
        notPlanned(x, "(0 9)", 2, 3);
        typed(x, "abc");
        due("undo() of plan()", x.undo(), 1);
        due("told", toldBy(x), "(0 1)");
        due("count(10)", x.count(10), 3);
        due("fault(false)", x.fault(false), 2);
        due("fault(true)", x.fault(true), 3);
    }

    private static void count() {
        promise(15);
        JoinOrders x = chain();
        due("count(0)", x.count(0), 4);
        due("count(1)", x.count(1), 3);
        due("count(2)", x.count(2), 1000);
        due("count(3)", x.count(3), 10);
        due("count(4)", x.count(4), 10);
        due("count(5)", x.count(5), 0);
        due("count(6)", x.count(6), 1);
        due("count(11)", x.count(11), 1);
        due("count(12)", x.count(12), NONE);
        due("count(-1)", x.count(-1), NONE);
        planned(x, "((0 2) (1 3))");
        due("count(7)", x.count(7), 3);
        due("count(8)", x.count(8), 2);
        due("count(9)", x.count(9), 1);
        typed(x, "relation 5");
        due("count(10)", x.count(10), 10);
        x.cut(1);
        due("count(3) of two parts", x.count(3), 6);
        due("count(6) of two parts", x.count(6), 0);
        due("count(11) of two parts", x.count(11), 2);
        x = of("relation 1;relation 1;relation 1;edge 0 1 - 2 by 1;");
        due("count(3), an edge of sets that are not connected", x.count(3), 3);
        due("count(6)", x.count(6), 0);
        due("count(11)", x.count(11), 3);
        x.link(1, 2, 1);
        due("count(3), now they are", x.count(3), 5);
        due("count(4)", x.count(4), 2);
        due("count(6)", x.count(6), 1);
        due("count(11)", x.count(11), 1);
        x = of("relation 1000000;relation 1000000;relation 1000000;relation 1;");
        due("count(5)", x.count(5), 2);
        due("count(6), none joined", x.count(6), 0);
        x = eight();
        for (int one = 0; one < 8; one++) {
            for (int other = one + 2; other < 8 && x.count(1) < 16; other++) {
                x.link(1 << one, 1 << other, 1);
            }
        }
        due("count(0)", x.count(0), 8);
        x = of("relation 1;");
        due("count(3) of one", x.count(3), 1);
        due("count(4) of one", x.count(4), 0);
        due("count(6) of one", x.count(6), 1);
        due("count(11) of one", x.count(11), 1);
    }

    private static void edge() {
        promise(16);
        JoinOrders x = of("relation 1;relation 1;relation 1;edge 2 0 - 1 by 77;");
        due("edge(0, 0)", x.edge(0, 0), 5);
        due("edge(0, 1)", x.edge(0, 1), 2);
        due("edge(0, 2)", x.edge(0, 2), 77);
        dueNoSuchElement("edge(0, 3)", () -> x.edge(0, 3));
        dueNoSuchElement("edge(0, -1)", () -> x.edge(0, -1));
        dueNoSuchElement("edge(1, 0)", () -> x.edge(1, 0));
        dueNoSuchElement("edge(-1, 0)", () -> x.edge(-1, 0));
        dueNoSuchElement("edge(16, 0)", () -> x.edge(16, 0));
        dueNoSuchElement("edge(MAX, 0)", () -> x.edge(Integer.MAX_VALUE, 0));
    }

    private static void size() {
        promise(17);
        JoinOrders x = chain();
        due("size(1)", x.size(1, false), 10);
        due("size(3)", x.size(3, false), 100);
        due("size(5)", x.size(5, false), 300);
        due("size(7)", x.size(7, false), 1000);
        due("size(14)", x.size(14, false), 2000);
        due("size(15)", x.size(15, false), 10000);
        due("size(15, true)", x.size(15, true), 0);
        due("size(0)", x.size(0, false), NONE);
        due("size(0, true)", x.size(0, true), NONE);
        due("size(16)", x.size(16, false), NONE);
        due("size(-1)", x.size(-1, false), NONE);
        due("size(MIN)", x.size(Integer.MIN_VALUE, true), NONE);
        due("size(17)", x.size(17, true), NONE);
        x = of("relation 1000000;relation 1000000;relation 1000;relation 1001;");
        due("size(7), just the cap", x.size(7, false), CAP);
        due("size(7, true)", x.size(7, true), 0);
        due("size(11), more than the cap", x.size(11, false), CAP);
        due("size(11, true)", x.size(11, true), 1);
        x = of("relation 1000000;relation 1000000;relation 1000000;edge 0 1 - 2 by 10;");
        due("size(7), capped ahead of by", x.size(7, false), CAP / 10);
        due("size(7, true), it was capped", x.size(7, true), 1);
        x = of("relation 1000000;relation 1000000;relation 1000000;edge 0 - 1 by 10000;");
        due("size(7), by ahead of the cap", x.size(7, false), 100000000000000L);
        due("size(7, true)", x.size(7, true), 0);
        x = of("relation 1000000;".repeat(8));
        due("size(255)", x.size(255, false), CAP);
        due("size(255, true)", x.size(255, true), 1);
        x = of("relation 2;relation 3;relation 7;edge 0-1 by 100;edge 1-2 by 2;edge 0-2 by 2;");
        due("size(3), 1 at least", x.size(3, false), 1);
        due("size(7), twice rounded down", x.size(7, false), 1);
        due("size(6)", x.size(6, false), 10);
        x = of("relation 5;relation 3;relation 7;edge 0-1 by 2;edge 0-2 by 2;");
        due("size(7), rounded down at each relation", x.size(7, false), 24);
    }

    private static void connected() {
        promise(18);
        JoinOrders x = chain();
        due("connected(1)", x.connected(1), true);
        due("connected(3)", x.connected(3), true);
        due("connected(5)", x.connected(5), false);
        due("connected(13)", x.connected(13), false);
        due("connected(15)", x.connected(15), true);
        due("connected(0)", x.connected(0), false);
        due("connected(16)", x.connected(16), false);
        due("connected(-1)", x.connected(-1), false);
        x = of("relation 1;relation 1;relation 1;relation 1;edge 0 1 - 2 3 by 1;edge 0 - 1 by 1;");
        due("connected(15), its right is not", x.connected(15), false);
        x.link(8, 4, 1);
        due("connected(15), now it is", x.connected(15), true);
        due("connected(7)", x.connected(7), false);
    }

    private static void joined() {
        promise(19);
        JoinOrders x = of("relation 1;relation 1;relation 1;relation 1;edge 0 1 - 2 by 1;");
        due("joined(3, 4)", x.joined(3, 4), true);
        due("joined(4, 3)", x.joined(4, 3), true);
        due("joined(11, 4)", x.joined(11, 4), true);
        due("joined(3, 12)", x.joined(3, 12), true);
        due("joined(1, 4)", x.joined(1, 4), false);
        due("joined(1, 6)", x.joined(1, 6), false);
        due("joined(3, 8)", x.joined(3, 8), false);
        due("joined(7, 4)", x.joined(7, 4), false);
        due("joined(7, 8)", x.joined(7, 8), false);
        due("joined(0, 4)", x.joined(0, 4), false);
        due("joined(3, 0)", x.joined(3, 0), false);
        due("joined(3, 20)", x.joined(3, 20), false);
        due("joined(19, 4)", x.joined(19, 4), false);
        due("joined(-5, 4)", x.joined(-5, 4), false);
    }

    private static void pair() {
        promise(20);
        JoinOrders x = chain();
        int[] first = {1, 2, 1, 3, 4, 2, 6, 1, 3, 7};
        int[] second = {2, 4, 6, 4, 8, 12, 8, 14, 12, 8};
        for (int k = 0; k < first.length; k++) {
            due("pair(" + k + ", false)", x.pair(k, false), first[k]);
            due("pair(" + k + ", true)", x.pair(k, true), second[k]);
        }
        due("pair(10, false)", x.pair(10, false), NONE);
        due("pair(10, true)", x.pair(10, true), NONE);
        due("pair(-1, false)", x.pair(-1, false), NONE);
        due("pair(MAX, false)", x.pair(Integer.MAX_VALUE, false), NONE);
        x = of("relation 1;relation 1;edge 1 - 0 by 1;edge 0 - 1 by 1;");
        due("count(4), told but once", x.count(4), 1);
        due("pair(0, false)", x.pair(0, false), 1);
        due("pair(0, true)", x.pair(0, true), 2);
        due("pair(0, false) of none", new JoinOrders().pair(0, false), NONE);
    }

    private static void best() {
        promise(21);
        JoinOrders x = chain();
        due("best(15, false, 0)", x.best(15, false, 0), 10400);
        due("best(15, false, 1)", x.best(15, false, 1), 0);
        due("best(15, false, 2)", x.best(15, false, 2), 3);
        due("best(15, true, 0)", x.best(15, true, 0), 11100);
        due("best(15, true, 1)", x.best(15, true, 1), 0);
        due("best(15, true, 2)", x.best(15, true, 2), 7);
        due("best(14, false, 0)", x.best(14, false, 0), 2200);
        due("best(14, false, 2)", x.best(14, false, 2), 6);
        due("best(5, false, 0)", x.best(5, false, 0), 300);
        due("best(5, false, 1), a cross", x.best(5, false, 1), 1);
        due("best(4, false, 0)", x.best(4, false, 0), 0);
        due("best(4, true, 1)", x.best(4, true, 1), 0);
        due("best(4, false, 2)", x.best(4, false, 2), 0);
        due("best(0, false, 0)", x.best(0, false, 0), NONE);
        due("best(16, false, 0)", x.best(16, false, 0), NONE);
        due("best(-1, true, 0)", x.best(-1, true, 0), NONE);
        due("best(15, false, 3)", x.best(15, false, 3), NONE);
        due("best(15, true, -1)", x.best(15, true, -1), NONE);
        due("best(1) of none", new JoinOrders().best(1, false, 0), NONE);
        x = of("relation 1;relation 5;relation 5;edge 1-2 by 1;edge 0-2 by 1;");
        due("best(7, false, 2), rather dear than a cross", x.best(7, false, 2), 5);
        x = of("relation 1000000;relation 1000000;relation 1000000;");
        due("best(7, false, 0), capped", x.best(7, false, 0), CAP);
        due("best(7, false, 1)", x.best(7, false, 1), 2);
        due("best(7, false, 2), of like ones the least", x.best(7, false, 2), 1);
    }

    private static void bestOfTies() {
        promise(21);
        JoinOrders x = of("relation 1;relation 1;relation 1;relation 1;edge 0-1 by 1;edge 1-2 by 1;edge 2-3 by 1;");
        due("best(15, false, 2)", x.best(15, false, 2), 1);
        due("best(15, true, 2)", x.best(15, true, 2), 1);
        due("best(14, false, 2)", x.best(14, false, 2), 2);
        x = of("relation 2;relation 2;relation 2;relation 2;");
        due("best(15, false, 0), only crosses", x.best(15, false, 0), 24);
        due("best(15, false, 1)", x.best(15, false, 1), 3);
        due("best(15, false, 2)", x.best(15, false, 2), 3);
        due("best(15, true, 0)", x.best(15, true, 0), 28);
        due("best(15, true, 2)", x.best(15, true, 2), 1);
    }

    private static void greedy() {
        promise(22);
        JoinOrders x = trap();
        due("greedy(0)", x.greedy(0), 5550);
        due("greedy(1)", x.greedy(1), 0);
        due("greedy(2)", x.greedy(2), 7);
        due("greedy(3)", x.greedy(3), NONE);
        due("greedy(-1)", x.greedy(-1), NONE);
        x = new JoinOrders();
        due("greedy(0) of none", x.greedy(0), NONE);
        due("greedy(2) of none", x.greedy(2), NONE);
        x.add(5);
        due("greedy(0) of one", x.greedy(0), 0);
        due("greedy(1) of one", x.greedy(1), 0);
        due("greedy(2) of one", x.greedy(2), 0);
        x = of("relation 1;relation 2;relation 900;relation 900;edge 2-3 by 1;");
        due("greedy(0), joined ones ahead", x.greedy(0), 810000 + 2 + 1620000);
        due("greedy(1)", x.greedy(1), 2);
        due("greedy(2)", x.greedy(2), 3);
        x = of("relation 3;relation 1;relation 3;relation 1;");
        due("greedy(0), crosses by size", x.greedy(0), 1 + 3 + 9);
        due("greedy(2), the first set is the least", x.greedy(2), 11);
        x.limit(0);
        x.choose();
        due("greedy leaves the plan", x.greedy(0), 13);
    }

    private static void node() {
        promise(23);
        JoinOrders x = chain();
        dueNoSuchElement("node(0, 0) without a plan", () -> x.node(0, 0));
        planned(x, "(3 ((2 0) 1))");
        long[][] due = {{15, 7, 10000, 11300, 0}, {7, 5, 1000, 1300, 0}, {5, 1, 300, 300, 1}};
        for (int k = 0; k < due.length; k++) {
            for (int what = 0; what < 5; what++) {
                due("node(" + k + ", " + what + ")", x.node(k, what), due[k][what]);
            }
        }
        dueNoSuchElement("node(3, 0)", () -> x.node(3, 0));
        dueNoSuchElement("node(-1, 0)", () -> x.node(-1, 0));
        dueNoSuchElement("node(7, 0)", () -> x.node(7, 0));
        dueNoSuchElement("node(0, 5)", () -> x.node(0, 5));
        dueNoSuchElement("node(0, -1)", () -> x.node(0, -1));
        planned(x, "((3 1) (2 0))");
        due("node(1, 0), the part with the least ahead", x.node(1, 0), 5);
        due("node(2, 0)", x.node(2, 0), 10);
        planned(x, "1");
        dueNoSuchElement("node(0, 0) of one relation", () -> x.node(0, 0));
        JoinOrders dear = of("relation 1000000;relation 1000000;relation 1000000;");
        planned(dear, "((0 1) 2)");
        due("node(0, 3), capped", dear.node(0, 3), CAP);
        due("node(1, 3)", dear.node(1, 3), 1000000000000L);
    }

    private static void cost() {
        promise(24);
        JoinOrders x = chain();
        due("cost() without a plan", x.cost(), NONE);
        planned(x, "((0 1)(2 3))");
        due("cost()", x.cost(), 10400);
        planned(x, "((1 2) 3)");
        due("cost() of some", x.cost(), 2200);
        planned(x, "3");
        due("cost() of one", x.cost(), 0);
        x.rows(0, 5);
        due("cost() behind a change", x.cost(), NONE);
        x = of("relation 1000000;relation 1000000;relation 1000;");
        planned(x, "((0 1) 2)");
        due("cost(), capped", x.cost(), CAP);
    }

    private static void told() {
        promise(25);
        JoinOrders x = eight();
        due("told(NONE) without a plan", x.told(NONE), NONE);
        due("told(0) without a plan", x.told(0), NONE);
        planned(x, "(7(6(5(4(3(2(1 0)))))))");
        String text = "(((((((0 1) 2) 3) 4) 5) 6) 7)";
        due("told(NONE)", x.told(NONE), text.length());
        due("told", toldBy(x), text);
        due("told(0)", x.told(0), '(');
        due("told(7)", x.told(7), '0');
        due("told(8)", x.told(8), ' ');
        due("told(28)", x.told(28), ')');
        due("told(29)", x.told(29), NONE);
        due("told(-2)", x.told(-2), NONE);
        due("told(MAX)", x.told(Integer.MAX_VALUE), NONE);
        planned(x, "((7 3)((4 1)5))");
        due("told", toldBy(x), "(((1 4) 5) (3 7))");
        planned(x, "007");
        due("told(NONE) of one", x.told(NONE), 1);
        due("told(0) of one", x.told(0), '7');
    }

    private static void move() {
        promise(26);
        JoinOrders x = trap();
        due("move(NONE) without a plan", x.move(NONE), NONE);
        due("move(0) without a plan", x.move(0), NONE);
        planned(x, "((0 (1 2)) 3)");
        long[] costs = {5550, 5150, 5600, 5600};
        due("move(NONE)", x.move(NONE), 4);
        for (int k = 0; k < 4; k++) {
            due("move(" + k + ")", x.move(k), costs[k]);
        }
        due("move(4)", x.move(4), NONE);
        due("move(-2)", x.move(-2), NONE);
        due("told stays", toldBy(x), "((0 (1 2)) 3)");
        x = of("relation 2;relation 3;relation 5;relation 7;");
        planned(x, "((0 1) (2 3))");
        // Both parts are joins: (0 1) ahead, then (2 3); all is 210.
        long[] both = {35 + 105 + 210, 35 + 70 + 210, 6 + 42 + 210, 6 + 30 + 210};
        due("move(NONE)", x.move(NONE), 4);
        for (int k = 0; k < 4; k++) {
            due("move(" + k + ")", x.move(k), both[k]);
        }
        planned(x, "(0 1)");
        due("move(NONE) of one join", x.move(NONE), 0);
        due("move(0) of one join", x.move(0), NONE);
        planned(x, "0");
        due("move(NONE) of one relation", x.move(NONE), 0);
        x = eight();
        x.choose();
        due("move(NONE) of eight", x.move(NONE), 12);
    }

    private static void steps() {
        promise(27);
        JoinOrders x = trap();
        due("steps() without a plan", x.steps(), NONE);
        planned(x, "(((0 1) 2) 3)");
        due("steps()", x.steps(), 1);
        due("steps() changes nothing", toldBy(x), "(((0 1) 2) 3)");
        x.step();
        due("steps() then", x.steps(), 0);
        planned(x, "(((0 3) 1) 2)");
        int steps = x.steps();
        int made = 0;
        while (x.step() > 0) {
            made++;
        }
        due("steps() told ahead", steps, made);
        due("steps() are more than one", steps > 1, true);
        planned(x, "0");
        due("steps() of one relation", x.steps(), 0);
    }

    private static void would() {
        promise(28);
        JoinOrders x = chain();
        x.choose();
        due("would(false, 0, 10), as it is", x.would(false, 0, 10), 10400);
        due("would(false, 0, 1)", x.would(false, 0, 1), 1000 + 10 + 100);
        due("would(true, 2, 4), as it is", x.would(true, 2, 4), 10400);
        due("would(true, 0, 200)", x.would(true, 0, 200), 1 + 10 + 100);
        due("would(false, 0, 0)", x.would(false, 0, 0), NONE);
        due("would(false, 0, 1000001)", x.would(false, 0, 1000001), NONE);
        due("would(false, 4, 1)", x.would(false, 4, 1), NONE);
        due("would(false, -1, 1)", x.would(false, -1, 1), NONE);
        due("would(true, 0, 0)", x.would(true, 0, 0), NONE);
        due("would(true, 0, 100001)", x.would(true, 0, 100001), NONE);
        due("would(true, 3, 1)", x.would(true, 3, 1), NONE);
        due("would(true, -1, 1)", x.would(true, -1, 1), NONE);
        due("size(1) stays", x.size(1, false), 10);
        due("edge(0, 2) stays", x.edge(0, 2), 2);
        due("best(15, false, 0) stays", x.best(15, false, 0), 10400);
        due("cost() stays", x.cost(), 10400);
        due("count(9) stays", x.count(9), 1);
        due("would(false, 0, 1000000) of one", of("relation 1;").would(false, 0, 1000000), 0);
    }

    private static void needed() {
        promise(29);
        JoinOrders x = chain();
        // All is 20000 without edge 0, 30000 without edge 1; without edge 2 it is 40000, with {1 2} 200 and the cross {0 3} 400.
        due("needed(false)", x.needed(false), 2);
        due("needed(true)", x.needed(true), 40600);
        due("count(1) stays", x.count(1), 3);
        x = of("relation 5;relation 5;edge 0-1 by 2;edge 0-1 by 2;");
        due("needed(false), of like ones the least", x.needed(false), 0);
        due("needed(true)", x.needed(true), 12);
        x = of("relation 5;relation 5;");
        due("needed(false) of none", x.needed(false), NONE);
        due("needed(true) of none", x.needed(true), NONE);
        x = new JoinOrders();
        due("needed(false) of a new object", x.needed(false), NONE);
    }

    private static void image() {
        promise(30);
        JoinOrders x = chain();
        due("image(-1)", x.image(-1), false);
        due("image(3)", x.image(3), false);
        x.choose();
        due("image(0)", x.image(0), true);
        due("image(2)", x.image(2), true);
        due("count(9), what can be undone stays", x.count(9), 1);
        x.add(5);
        due("image(0) once more", x.image(0), true);
        due("again(0)", x.again(0), true);
        due("count(0), the later one", x.count(0), 5);
        due("again(2)", x.again(2), true);
        due("count(0), the other one", x.count(0), 4);
    }

    private static void again() {
        promise(31);
        JoinOrders x = chain();
        due("again(0) of none", x.again(0), false);
        due("again(-1)", x.again(-1), false);
        due("again(3)", x.again(3), false);
        x.limit(77);
        x.choose();
        notPlanned(x, "(0 9)", 2, 3);
        typed(x, "abc");
        x.image(1);
        due("again(0), kept as another", x.again(0), false);
        due("count(9) stays then", x.count(9), 2);
        planned(x, "(0 1)");
        x.rows(0, 99);
        x.cut(0);
        x.limit(5);
        due("again(1)", x.again(1), true);
        due("count(0)", x.count(0), 4);
        due("count(1)", x.count(1), 3);
        due("count(2)", x.count(2), 77);
        due("count(9), none can be undone", x.count(9), 0);
        due("undo()", x.undo(), NONE);
        due("count(10)", x.count(10), 3);
        due("fault(false)", x.fault(false), 2);
        due("fault(true)", x.fault(true), 3);
        due("told", toldBy(x), "((0 1) (2 3))");
        due("size(1)", x.size(1, false), 10);
        due("best(15, false, 0)", x.best(15, false, 0), 10400);
        due("plan() of abc", x.plan(), NONE);
        due("again(1) once more", x.again(1), true);
        due("count(10) once more", x.count(10), 3);
        x.query();
        due("query()", queried(x, "relation 5;"), 1);
        due("again(1) behind a query", x.again(1), true);
        due("count(0) behind a query", x.count(0), 4);
        typed(x, "(0 1)");
        due("plan() of abc(0 1)", x.plan(), NONE);
        typed(x, "(2 3)");
        x.image(2);
        planned(x, "abcdefgh");
        due("again(2)", x.again(2), true);
        due("plan() of the text that was kept", x.plan(), 1);
        due("told", toldBy(x), "(2 3)");
        x = new JoinOrders();
        x.image(0);
        x.add(5);
        due("again(0) of nothing", x.again(0), true);
        due("count(0)", x.count(0), 0);
        due("add(7)", x.add(7), 0);
    }

    /** No call may throw but what the document says, whatever it is given, with and without things there. */
    private static void allStrangeArguments() {
        promise(0);
        int[] odd = {Integer.MIN_VALUE, -257, -2, -1, 0, 1, 7, 8, 15, 16, 255, 256, 500, 5000, 1 << 30, Integer.MAX_VALUE};
        for (int start = 0; start < 3; start++) {
            for (int a : odd) {
                for (int b : odd) {
                    JoinOrders x = start == 0 ? new JoinOrders() : start == 1 ? chain() : eight();
                    if (start > 0) {
                        x.choose();
                    }
                    strangeQuestions(x, a, b);
                    strangeActs(x, a, b);
                }
            }
        }
    }

    private static void strangeQuestions(JoinOrders x, int a, int b) {
        x.count(a);
        x.size(a, true);
        x.connected(a);
        x.joined(a, b);
        x.pair(a, true);
        x.best(a, true, b);
        x.best(a, false, b);
        x.greedy(a);
        x.told(a);
        x.move(a);
        x.would(true, a, b);
        x.would(false, a, b);
        x.needed(true);
        try {
            x.edge(a, b);
        } catch (NoSuchElementException e) {
            due("edge(" + a + ", " + b + ") threw", a >= 0 && a < x.count(1) && b >= 0 && b < 3, false);
        }
        try {
            x.node(a, b);
        } catch (NoSuchElementException e) {
            due("node(" + a + ", " + b + ") threw", a >= 0 && a < x.count(7) && b >= 0 && b < 5, false);
        }
    }

    private static void strangeActs(JoinOrders x, int a, int b) {
        x.image(a);
        x.again(b);
        x.rows(a, b);
        x.link(a, b, 1);
        x.link(1, a, b);
        x.cut(a);
        x.by(a, b);
        x.limit(a);
        x.add(a);
        x.type((long) a << 32 | b);
        x.plan();
        x.type((long) b << 32 | a);
        x.query();
        x.step();
        x.undo();
    }
}
