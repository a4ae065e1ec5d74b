import java.util.NoSuchElementException;

/** Promises 1, 30 and 31, and that questions change nothing: each boundary, at it and one beyond it. */
public final class KeptEdges extends Twins {
    private static final int MIN = Integer.MIN_VALUE;
    private static final int MAX = Integer.MAX_VALUE;

    private KeptEdges() {
    }

    public static void main(String[] args) {
        newObject();
        newObjectRefuses();
        questionsChangeNothing();
        imageOfEachNumber();
        imageRefused();
        imageOfAll();
        imageLeavesAll();
        imageOverAnother();
        againThereIsNone();
        againOfEachNumber();
        againOnceMore();
        againBringsNoUndo();
        againOfAFullText();
        imagesStay();
        end();
    }

    private static long b(boolean v) {
        return v ? 1 : 0;
    }

    // ---- promise 1

    private static void newObject() {
        sentence(1, "No RELATIONS.");
        JoinOrders x = new JoinOrders();
        due("count(0)", x.count(0), 0);
        due("count(1)", x.count(1), 0);
        due("count(2)", x.count(2), 1000);
        due("count(7)", x.count(7), NONE);
        due("count(9)", x.count(9), 0);
        due("count(10)", x.count(10), 0);
        due("NONE", JoinOrders.NONE, -1);
        JoinOrders other = laden();
        due("another object changes nothing", Answers.of(x, true), Answers.of(new JoinOrders(), true));
        due("nor does this one", Answers.of(other, true), Answers.of(laden(), true));
    }

    private static void newObjectRefuses() {
        sentence(1, "No RELATIONS, so these are refused");
        refused("rows(0, 5)", JoinOrders::new, x -> b(x.rows(0, 5)), 0);
        refused("link(1, 2, 5)", JoinOrders::new, x -> x.link(1, 2, 5));
        refused("cut(0)", JoinOrders::new, x -> x.cut(0));
        refused("by(0, 5)", JoinOrders::new, x -> b(x.by(0, 5)), 0);
        refused("choose()", JoinOrders::new, JoinOrders::choose);
        refused("step()", JoinOrders::new, JoinOrders::step);
        refused("undo()", JoinOrders::new, JoinOrders::undo);
        for (int k = 0; k < 3; k++) {
            int image = k;
            refused("again(" + k + ")", JoinOrders::new, x -> b(x.again(image)), 0);
        }
        refusedText("0", JoinOrders::new, true, 2, 0);
    }

    // ---- questions

    private static long ask(JoinOrders x, int a, int b) {
        x.count(a);
        x.size(a, true);
        x.size(a, false);
        x.connected(a);
        x.joined(a, b);
        x.pair(a, true);
        x.best(a, true, b);
        x.best(b, false, a);
        x.greedy(a);
        x.cost();
        x.told(a);
        x.move(a);
        x.steps();
        x.would(true, a, b);
        x.would(false, a, b);
        x.needed(true);
        x.needed(false);
        x.fault(true);
        return refusedElement(x, a, b);
    }

    private static long refusedElement(JoinOrders x, int a, int b) {
        long refused = 0;
        try {
            x.edge(a, b);
        } catch (NoSuchElementException e) {
            refused++;
        }
        try {
            x.node(a, b);
        } catch (NoSuchElementException e) {
            refused++;
        }
        return refused;
    }

    private static void questionsChangeNothing() {
        sentence(15, "Questions change nothing.");
        int[][] sound = {{0, 0}, {0, 1}, {1, 2}, {2, 1}, {1, 0}, {2, 2}};
        int[][] wrong = {{-1, 0}, {MIN, MAX}, {MAX, MIN}, {16, 16}, {0, -1}, {7, 1000001}, {257, 257}};
        for (int[] each : sound) {
            refused("questions of " + each[0] + ", " + each[1], Twins::laden, x -> ask(x, each[0], each[1]), 0);
        }
        for (int[] each : wrong) {
            refused("questions of " + each[0] + ", " + each[1], Twins::laden, x -> ask(x, each[0], each[1]), 2);
            refused("questions of " + each[0] + ", " + each[1], JoinOrders::new, x -> ask(x, each[0], each[1]), 2);
        }
        refused("questions of 3, 2, of the most", Twins::full, x -> ask(x, 3, 2), 0);
    }

    // ---- promise 30

    private static void imageOfEachNumber() {
        sentence(30, "is kept as k, 0 to 2: true");
        for (int k = 0; k < 3; k++) {
            JoinOrders x = chain();
            due("image(" + k + ")", x.image(k), true);
            x.add(5);
            for (int other = 0; other < 3; other++) {
                if (other != k) {
                    due("again(" + other + ")", x.again(other), false);
                    due("count(0)", x.count(0), 5);
                }
            }
            due("again(" + k + ")", x.again(k), true);
            due("count(0)", x.count(0), 4);
        }
    }

    private static void imageRefused() {
        sentence(30, "false for another k");
        for (int k : new int[] {-1, -2, 3, 4, 8, 256, MIN, MAX}) {
            refused("image(" + k + ")", Twins::laden, x -> b(x.image(k)), 0);
            refused("image(" + k + ") on a new object", JoinOrders::new, x -> b(x.image(k)), 0);
        }
    }

    private static JoinOrders changed(JoinOrders x) {
        x.query();
        x.add(77);
        x.link(1, 2, 88);
        x.link(8, 4, 99);
        x.by(0, 77);
        x.rows(0, 66);
        x.limit(55);
        x.choose();
        planned(x, "(0 0)");
        typed(x, "xyz;");
        return x;
    }

    /** All but what can be undone: it can be told only of a state with none, as again() leaves. */
    private static void imageOfAll() {
        sentence(30, "All that there is (THE TEXT, the FAULT, THE PLAN, too, but for what can be UNDONE)");
        Start[] starts = {JoinOrders::new, Testing::chain, Twins::laden, Twins::full, KeptEdges::ofOneRelation};
        for (Start start : starts) {
            JoinOrders as = start.make();
            as.image(1);
            as.again(1);
            String due = Answers.of(as, true);
            JoinOrders x = start.make();
            due("image(1)", x.image(1), true);
            x = changed(x);
            due("again(1)", x.again(1), true);
            due("all behind it", Answers.of(x, true), due);
            due("plan() of THE TEXT", planned(x, " 2)"), planned(as, " 2)"));
            due("fault(true) of THE TEXT", x.fault(true), as.fault(true));
        }
        JoinOrders x = laden();
        x.image(1);
        int acts = x.count(9);
        String ahead = Answers.of(x, true).replace("count9=" + acts, "count9=0");
        x = laden();
        x.image(1);
        x.again(1);
        due("all behind image(1) and again(1)", Answers.of(x, true), ahead);
    }

    private static JoinOrders ofOneRelation() {
        JoinOrders x = ofRows(5);
        x.choose();
        return x;
    }

    private static void imageLeavesAll() {
        sentence(30, "All that there is is kept (and stays as it is)");
        JoinOrders x = laden();
        JoinOrders as = laden();
        x.image(1);
        due("all behind image(1)", Answers.of(x, true), Answers.of(as, true));
        due("undo()", x.undo(), as.undo());
        due("undo()", x.undo(), as.undo());
        due("plan() of THE TEXT", planned(x, " 2)"), planned(as, " 2)"));
        due("told", toldBy(x), toldBy(as));
    }

    private static void imageOverAnother() {
        sentence(30, "is kept as k: the later one");
        JoinOrders x = ofRows(5);
        x.image(0);
        x.image(1);
        x.add(6);
        x.image(0);
        x.add(7);
        due("again(0)", x.again(0), true);
        due("count(0)", x.count(0), 2);
        due("again(1)", x.again(1), true);
        due("count(0)", x.count(0), 1);
        due("again(0) once more", x.again(0), true);
        due("count(0)", x.count(0), 2);
    }

    // ---- promise 31

    private static void againThereIsNone() {
        sentence(31, "false if there is none such");
        for (int k : new int[] {-1, -2, 3, 4, 8, 256, MIN, MAX}) {
            refused("again(" + k + ")", Twins::laden, x -> b(x.again(k)), 0);
        }
        // Only 0 and 2 are kept in it.
        refused("again(1)", Twins::laden, x -> b(x.again(1)), 0);
        refused("again(0)", Twins::full, x -> b(x.again(0)), 0);
        refused("again(2)", Twins::full, x -> b(x.again(2)), 0);
        JoinOrders x = new JoinOrders();
        x.image(3);
        x.image(-1);
        for (int k = -1; k < 4; k++) {
            due("again(" + k + ") of what was refused", x.again(k), false);
        }
    }

    private static void againOfEachNumber() {
        sentence(31, "All is as it was kept as k: true");
        JoinOrders x = new JoinOrders();
        for (int k = 0; k < 3; k++) {
            x.add(10 + k);
            x.choose();
            typed(x, "abc");
            x.limit(k);
            x.image(k);
        }
        for (int k : new int[] {1, 0, 2, 2, 0, 1}) {
            due("again(" + k + ")", x.again(k), true);
            due("count(0)", x.count(0), k + 1);
            due("count(2)", x.count(2), k);
            due("count(7)", x.count(7), k);
            due("count(10)", x.count(10), 3 * (k + 1));
            due("size of the last", x.size(1 << k, false), 10 + k);
        }
    }

    private static void againOnceMore() {
        sentence(31, "All is as it was kept, also when it was changed behind again()");
        JoinOrders x = laden();
        x.image(1);
        x.again(1);
        String due = Answers.of(x, true);
        x = laden();
        x.image(1);
        x.again(1);
        x = changed(x);
        x.again(1);
        x = changed(x);
        due("again(1)", x.again(1), true);
        due("all behind it", Answers.of(x, true), due);
    }

    private static void againBringsNoUndo() {
        sentence(31, "again() leaves none (that can be UNDONE)");
        JoinOrders x = laden();
        x.image(1);
        due("count(9)", x.count(9), 8);
        x.again(1);
        due("count(9) behind again()", x.count(9), 0);
        due("undo()", x.undo(), NONE);
        x.limit(8);
        due("count(9) behind an act", x.count(9), 1);
        due("undo()", x.undo(), 0);
        due("count(2)", x.count(2), 3);
        due("undo()", x.undo(), NONE);
    }

    private static void againOfAFullText() {
        sentence(31, "All is as it was kept: THE TEXT of 500 bytes, and of none");
        JoinOrders x = new JoinOrders();
        x.image(0);
        typed(x, " ".repeat(489) + "relation 7;");
        x.image(1);
        due("query()", x.query(), 1);
        queried(x, "x".repeat(300));
        due("again(1)", x.again(1), true);
        due("type of one more", x.type(eightOf("x", 0)), NONE);
        due("query() of what was kept", x.query(), 1);
        due("size(1)", x.size(1, false), 7);
        x.again(1);
        due("again(0)", x.again(0), true);
        due("count(10)", x.count(10), 0);
        due("type of eight", x.type(eightOf("relation", 0)), 8);
        due("query() of relation alone", x.query(), NONE);
        due("fault(true)", x.fault(true), 8);
    }

    private static void imagesStay() {
        sentence(31, "as it was kept: images stay with query(), undo() and again()");
        JoinOrders x = chain();
        x.image(2);
        x.choose();
        x.image(0);
        queried(x, "relation 5;");
        due("again(0) behind query()", x.again(0), true);
        due("count(7)", x.count(7), 3);
        due("again(2)", x.again(2), true);
        due("count(7)", x.count(7), NONE);
        x.limit(5);
        x.image(1);
        x.undo();
        due("again(1) behind undo()", x.again(1), true);
        due("count(2)", x.count(2), 5);
    }
}
