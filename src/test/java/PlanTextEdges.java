/** Promises 4 and 5, and Term 1 of plans: each sentence that names a boundary, at it and one beyond it. */
public final class PlanTextEdges extends Twins {
    private PlanTextEdges() {
    }

    public static void main(String[] args) {
        planOfOneOrOfTwo();
        planCutShort();
        bytesThatBeginAToken();
        numbersOfOneToSevenDigits();
        numberOfNoRelation();
        relationThatThePlanHasAlready();
        formGoesAhead();
        firstByPlace();
        deepPlans();
        planEmptiesTheText();
        planOfThoseThatItHas();
        howManyJoins();
        planOf500Bytes();
        planIsAnAct();
        planRefused();
        faultAtFirst();
        faultOfTheLatest();
        faultStays();
        end();
    }

    private static JoinOrders ofMany(int relations) {
        JoinOrders x = new JoinOrders();
        for (int i = 0; i < relations; i++) {
            x.add(5);
        }
        return x;
    }

    private static void notPlannedOf(int relations, String text, int fault, int place) {
        notPlanned(ofMany(relations), text, fault, place);
    }

    private static void plannedOf(int relations, String text, String told) {
        JoinOrders x = ofMany(relations);
        due("plan() of " + text, planned(x, text), told.length() - told.replace("(", "").length());
        due("told of " + text, toldBy(x), told);
        due("fault(false) of " + text, x.fault(false), 0);
        due("fault(true) of " + text, x.fault(true), NONE);
        due("count(10) of " + text, x.count(10), 0);
    }

    // ---- the form of a plan

    private static void planOfOneOrOfTwo() {
        sentence(4, "a NUMBER (of a RELATION), or ( PLAN PLAN )");
        plannedOf(4, "0", "0");
        plannedOf(4, "(0 1)", "(0 1)");
        plannedOf(4, " ( 0\n1 ) ", "(0 1)");
        plannedOf(4, "(0(1 2))", "(0 (1 2))");
        plannedOf(4, "((0 1)2)", "((0 1) 2)");
        plannedOf(4, "((0 1)(2 3))", "((0 1) (2 3))");
        notPlannedOf(4, "", 1, 0);
        notPlannedOf(4, "\n \n", 1, 3);
        notPlannedOf(4, "()", 1, 1);
        notPlannedOf(4, "(0)", 1, 2);
        notPlannedOf(4, "(0 1 2)", 1, 5);
        notPlannedOf(4, "(0 1 (2 3))", 1, 5);
        notPlannedOf(4, "((0 1) 2 3)", 1, 9);
        notPlannedOf(4, "((0 1))", 1, 6);
        notPlannedOf(4, "(()0)", 1, 2);
        notPlannedOf(4, "0 1", 1, 2);
        notPlannedOf(4, "0 (1 2)", 1, 2);
        notPlannedOf(4, "(0 1) 2", 1, 6);
        notPlannedOf(4, "(0 1) (2 3)", 1, 6);
        notPlannedOf(4, "(0 1))", 1, 5);
        notPlannedOf(4, ")", 1, 0);
        notPlannedOf(4, "0)", 1, 1);
        notPlannedOf(4, "(0;1)", 1, 2);
        notPlannedOf(4, "(0-1)", 1, 2);
        notPlannedOf(4, "(0 1);", 1, 5);
        for (String word : new String[] {"relation", "edge", "limit", "by", "a"}) {
            notPlannedOf(4, word, 1, 0);
            notPlannedOf(4, "(0 " + word + ")", 1, 3);
        }
    }

    private static void planCutShort() {
        sentence(4, "1 likewise: the end, if more must come");
        String whole = "((3 0) (1 2))";
        for (int length = 0; length < whole.length(); length++) {
            notPlannedOf(4, whole.substring(0, length), 1, length);
            notPlannedOf(4, whole.substring(0, length) + " \n", 1, length + 2);
        }
        plannedOf(4, whole, "((0 3) (1 2))");
        plannedOf(4, whole + " \n", "((0 3) (1 2))");
    }

    private static void bytesThatBeginAToken() {
        sentence(4, "1 likewise: a byte that begins none, a token that can not stand there");
        for (int sign = 1; sign < 256; sign++) {
            String text = "(0" + (char) sign + "1)";
            if (sign == 32 || sign == 10) {
                plannedOf(2, text, "(0 1)");
            } else if (sign >= '0' && sign <= '9' || sign == '(') {
                // But one plan stands ahead of the ).
                notPlannedOf(2, text, 1, 4);
            } else {
                notPlannedOf(2, text, 1, 2);
            }
        }
    }

    private static void numbersOfOneToSevenDigits() {
        sentence(4, "NUMBERS, 1 to 7 digits");
        plannedOf(4, "(0000003 1)", "(1 3)");
        notPlannedOf(4, "(00000003 1)", 1, 1);
        plannedOf(4, "0000000", "0");
        notPlannedOf(4, "00000000", 1, 0);
        notPlannedOf(4, "(0 " + "0".repeat(490) + "1)", 1, 3);
    }

    // ---- other faults

    private static void numberOfNoRelation() {
        sentence(4, "2 a NUMBER of no RELATION");
        notPlannedOf(0, "0", 2, 0);
        notPlannedOf(0, "(0 1)", 2, 1);
        for (int many = 1; many <= 8; many++) {
            plannedOf(many, "" + (many - 1), "" + (many - 1));
            notPlannedOf(many, "" + many, 2, 0);
            notPlannedOf(many, "(0 " + many + ")", 2, 3);
        }
        // Bits of numbers from 32 on would be those of lesser ones.
        notPlannedOf(8, "(0 32)", 2, 3);
        notPlannedOf(8, "(0 33)", 2, 3);
        notPlannedOf(8, "(256 1)", 2, 1);
        notPlannedOf(8, "9999999", 2, 0);
    }

    private static void relationThatThePlanHasAlready() {
        sentence(4, "3 of one that the PLAN has already");
        notPlannedOf(8, "(0 0)", 3, 3);
        notPlannedOf(8, "(7 007)", 3, 3);
        notPlannedOf(8, "((0 1)(2 0))", 3, 9);
        notPlannedOf(8, "((0 1)(2 1))", 3, 9);
        notPlannedOf(8, "(((((((0 1)2)3)4)5)6)6)", 3, 21);
        notPlannedOf(8, "((((((((0 1)2)3)4)5)6)7)7)", 3, 24);
        JoinOrders x = ofMany(3);
        planned(x, "(0 1)");
        due("plan() of those of the plan ahead", planned(x, "(0 1)"), 1);
    }

    private static void formGoesAhead() {
        sentence(4, "1 likewise: if there is none, 2 and 3");
        notPlannedOf(3, "9 9", 1, 2);
        notPlannedOf(3, "(9 0", 1, 4);
        notPlannedOf(3, "(0 0", 1, 4);
        notPlannedOf(3, "(0 0) x", 1, 6);
        notPlannedOf(3, "(0 (0 9)", 1, 8);
        notPlannedOf(3, "(9 00000000)", 1, 3);
    }

    private static void firstByPlace() {
        sentence(4, "2, 3: the first by place");
        notPlannedOf(3, "((0 9)(0 1))", 2, 4);
        notPlannedOf(3, "((0 0)(9 1))", 3, 4);
        notPlannedOf(3, "(9 9)", 2, 1);
        notPlannedOf(3, "((9 8)(7 6))", 2, 2);
        notPlannedOf(3, "((1 1)(1 1))", 3, 4);
    }

    private static void deepPlans() {
        sentence(4, "( PLAN PLAN ), however deep");
        notPlannedOf(8, "(".repeat(499), 1, 499);
        notPlannedOf(8, "(".repeat(500), 1, 500);
        notPlannedOf(8, "(".repeat(499) + ")", 1, 499);
        notPlannedOf(8, "(".repeat(250) + ")".repeat(250), 1, 250);
        notPlannedOf(8, "(0 ".repeat(124) + "0" + ")".repeat(124), 3, 4);
        notPlannedOf(8, "(0 ".repeat(125) + ")".repeat(125), 1, 375);
        notPlannedOf(8, "(".repeat(124) + "0" + " 0)".repeat(124), 3, 126);
        notPlannedOf(8, "(".repeat(124) + "8" + " 0)".repeat(124), 2, 124);
    }

    // ---- promise 4

    private static void planEmptiesTheText() {
        sentence(4, "THE TEXT is read as a PLAN (it is empty then)");
        JoinOrders x = ofMany(3);
        due("plan()", planned(x, "(0 1)"), 1);
        due("count(10)", x.count(10), 0);
        due("plan() of nothing", x.plan(), NONE);
        due("fault(true)", x.fault(true), 0);
        due("plan() with a fault", planned(x, "(0 3)"), NONE);
        due("count(10)", x.count(10), 0);
        planned(x, "2222222222");
        due("plan() of (1 2, behind a longer text", planned(x, "(1 2"), NONE);
        due("fault(true)", x.fault(true), 4);
        due("plan() of 2", planned(x, "2"), 0);
        due("told", toldBy(x), "2");
    }

    private static void planOfThoseThatItHas() {
        sentence(4, "of those RELATIONS that it has");
        JoinOrders x = chain();
        due("plan() of one", planned(x, "3"), 0);
        due("count(7)", x.count(7), 0);
        due("cost()", x.cost(), 0);
        due("told", toldBy(x), "3");
        due("plan() of two", planned(x, "(3 2)"), 1);
        due("node(0, 0)", x.node(0, 0), 12);
        due("cost()", x.cost(), 300);
        due("plan() of three", planned(x, "((3 1) 0)"), 2);
        due("node(0, 0)", x.node(0, 0), 11);
        due("plan() of all", planned(x, "((3 1) (0 2))"), 3);
        due("node(0, 0)", x.node(0, 0), 15);
    }

    private static void howManyJoins() {
        sentence(4, "how many JOINS");
        String row = "0";
        for (int joins = 0; joins < 8; joins++) {
            plannedOf(8, row, row);
            row = "(" + row + " " + (joins + 1) + ")";
        }
        plannedOf(8, "(((0 1) (2 3)) ((4 5) (6 7)))", "(((0 1) (2 3)) ((4 5) (6 7)))");
        plannedOf(8, "(7(6(5(4(3(2(1 0)))))))", "(((((((0 1) 2) 3) 4) 5) 6) 7)");
        plannedOf(8, "(0(1(2(3(4(5(6 7)))))))", "(0 (1 (2 (3 (4 (5 (6 7)))))))");
    }

    private static void planOf500Bytes() {
        sentence(4, "THE TEXT has at most 500 bytes");
        plannedOf(2, "(0" + " ".repeat(496) + "1)", "(0 1)");
        plannedOf(2, " ".repeat(499) + "1", "1");
        plannedOf(2, "1" + " ".repeat(499), "1");
        notPlannedOf(2, " ".repeat(500), 1, 500);
        notPlannedOf(2, "(0" + " ".repeat(497) + "1", 1, 500);
        notPlannedOf(2, " ".repeat(499) + "2", 2, 499);
        JoinOrders x = ofMany(2);
        typed(x, "(0" + " ".repeat(497) + "1");
        due("type of ) at 500", x.type(eightOf(")", 0)), NONE);
        due("plan()", x.plan(), NONE);
    }

    private static void planIsAnAct() {
        sentence(4, "it is THE PLAN; plan(), that was not refused, is an ACT");
        JoinOrders x = ofMany(2);
        due("count(9)", x.count(9), 2);
        planned(x, "(0 1)");
        due("count(9) behind plan()", x.count(9), 3);
        planned(x, "(0 2)");
        due("count(9) behind one that was refused", x.count(9), 3);
        due("told", toldBy(x), "(0 1)");
        due("undo()", x.undo(), 2);
        due("count(7)", x.count(7), NONE);
    }

    private static void planRefused() {
        sentence(4, "NONE: a FAULT (all but THE TEXT, the FAULT stays)");
        Start start = () -> {
            JoinOrders x = laden();
            x.query();
            return x;
        };
        refusedText("", start, true, 1, 0);
        refusedText("(0 1) 2", start, true, 1, 6);
        refusedText("((0 1) (2 4))", start, true, 2, 10);
        refusedText("((0 1) (2 1))", start, true, 3, 10);
        refusedText("0", JoinOrders::new, true, 2, 0);
        refusedText("", JoinOrders::new, true, 1, 0);
    }

    // ---- promise 5

    private static void faultAtFirst() {
        sentence(5, "0 without, and at first; its place (NONE without)");
        JoinOrders x = new JoinOrders();
        due("fault(false) at first", x.fault(false), 0);
        due("fault(true) at first", x.fault(true), NONE);
        x.query();
        due("fault(false) of a query without", x.fault(false), 0);
        due("fault(true) of a query without", x.fault(true), NONE);
        x.add(5);
        planned(x, "0");
        due("fault(false) of a plan without", x.fault(false), 0);
        due("fault(true) of a plan without", x.fault(true), NONE);
    }

    private static void dueFault(String behind, JoinOrders x, int fault, int place) {
        due("fault(false) behind " + behind, x.fault(false), fault);
        due("fault(true) behind " + behind, x.fault(true), place);
    }

    private static void faultOfTheLatest() {
        sentence(5, "Of the latest query() or plan()");
        JoinOrders x = ofMany(3);
        queried(x, "relation 0;");
        dueFault("query()", x, 2, 9);
        planned(x, "(0 0)");
        dueFault("plan()", x, 3, 3);
        queried(x, "relation 5;".repeat(9));
        dueFault("query()", x, 4, 88);
        x.plan();
        dueFault("plan()", x, 1, 0);
        planned(x, "(0 1)");
        dueFault("plan() without", x, 0, NONE);
        planned(x, "(0 3)");
        dueFault("plan()", x, 2, 3);
        queried(x, "relation 5;");
        dueFault("query() without", x, 0, NONE);
    }

    private static void faultStays() {
        sentence(5, "it stays with all that is no query() or plan()");
        JoinOrders x = ofMany(3);
        queried(x, "relation 0;");
        typed(x, "abc");
        x.add(5);
        x.rows(0, 7);
        x.link(1, 2, 3);
        x.by(0, 4);
        x.cut(0);
        x.limit(7);
        x.choose();
        x.step();
        x.undo();
        x.image(0);
        dueFault("acts", x, 2, 9);
        x.plan();
        dueFault("plan() of abc", x, 1, 0);
        x.undo();
        dueFault("undo()", x, 1, 0);
        x.again(0);
        dueFault("again(0), it is as it was kept", x, 2, 9);
        x.again(1);
        dueFault("again(1), there is none such", x, 2, 9);
    }
}
