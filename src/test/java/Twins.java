import java.util.List;

/**
 * Two objects that are made alike, of which one gets a call that must change nothing:
 * whatever is done then, both must tell the same, also of what can be undone and of what is kept.
 */
abstract class Twins extends Testing {
    interface Start {
        JoinOrders make();
    }

    interface Act {
        long on(JoinOrders x);
    }

    private record Later(String name, Act act) {
    }

    /** What brings to light what can not be asked for: what is kept for undo(), the images, the bytes of THE TEXT. */
    private static final List<Later> LATER = List.of(
        new Later("nothing", x -> 0),
        new Later("undo()", x -> undone(x, 1)),
        new Later("2 undo()", x -> undone(x, 2)),
        new Later("4 undo()", x -> undone(x, 4)),
        new Later("7 undo()", x -> undone(x, 7)),
        new Later("9 undo()", x -> undone(x, 9)),
        new Later("8 limit(), 9 undo()", x -> limited(x, 8) + undone(x, 9)),
        new Later("5 limit(), 9 undo()", x -> limited(x, 5) + undone(x, 9)),
        new Later("choose()", JoinOrders::choose),
        new Later("step()", JoinOrders::step),
        new Later("link(1, 2, 3)", x -> x.link(1, 2, 3)),
        new Later("again(0)", x -> b(x.again(0))),
        new Later("again(1)", x -> b(x.again(1))),
        new Later("again(2)", x -> b(x.again(2))));

    /** These tell of THE TEXT, so they come only where it must stay, too. */
    private static final List<Later> LATER_OF_TEXT = List.of(
        new Later("query()", JoinOrders::query),
        new Later("plan()", JoinOrders::plan),
        new Later("type( 2), plan()", x -> planned(x, " 2)")),
        new Later("again(2), plan()", x -> b(x.again(2)) + x.plan()));

    private static long b(boolean v) {
        return v ? 1 : 0;
    }

    private static long undone(JoinOrders x, int times) {
        long answers = 0;
        for (int i = 0; i < times; i++) {
            answers = answers * 11 + x.undo();
        }
        return answers;
    }

    private static long limited(JoinOrders x, int times) {
        for (int i = 0; i < times; i++) {
            x.limit(100 + i);
        }
        return x.count(9);
    }

    /** A refused call: it answers so, and nothing has changed. */
    static void refused(String call, Start start, Act act, long want) {
        compare(call, start, act, want, true);
    }

    static void refused(String call, Start start, Act act) {
        refused(call, start, act, NONE);
    }

    /** A text that is refused: THE TEXT is empty then, the FAULT is told, and nothing else has changed. */
    static void refusedText(String text, Start start, boolean asPlan, int fault, int place) {
        String call = (asPlan ? "plan() of " : "query() of ") + text;
        compare(call, start, x -> asPlan ? planned(x, text) : queried(x, text), NONE, false);
        JoinOrders x = start.make();
        typed(x, text);
        due(call, asPlan ? x.plan() : x.query(), NONE);
        due(call + ", then fault(false)", x.fault(false), fault);
        due(call + ", then fault(true)", x.fault(true), place);
        due(call + ", then count(10)", x.count(10), 0);
    }

    private static void compare(String call, Start start, Act act, long want, boolean withText) {
        for (Later later : LATER) {
            compareLater(call, start, act, want, withText, later);
        }
        if (withText) {
            for (Later later : LATER_OF_TEXT) {
                compareLater(call, start, act, want, true, later);
            }
        }
    }

    private static void compareLater(String call, Start start, Act act, long want, boolean withText, Later later) {
        JoinOrders tried = start.make();
        JoinOrders plain = start.make();
        due(call, act.on(tried), want);
        String behind = call + ", then " + later.name;
        due(behind, later.act.on(tried), later.act.on(plain));
        // An image brings back THE TEXT and the FAULT, whatever they are by then.
        due(behind + ", then all", Answers.of(tried, withText), Answers.of(plain, withText));
    }

    // ---- objects to begin with

    /** With all kinds of things: a plan, eight acts, images 0 and 2, a text that is no query, a fault. */
    static JoinOrders laden() {
        JoinOrders x = new JoinOrders();
        queried(x, "relation 10;relation 20;relation 30;relation 40;edge 0-1 by 2;edge 1-2 by 3;edge 2-3 by 4;");
        x.choose();
        x.image(0);
        x.rows(1, 21);
        x.by(2, 5);
        x.link(3, 4, 7);
        x.cut(3);
        typed(x, "0");
        x.image(2);
        x.plan();
        x.limit(3);
        planned(x, "(0 9)");
        planned(x, "(((0 3) 1) 2)");
        x.step();
        planned(x, "(0 (0 1))");
        typed(x, "(1");
        return x;
    }

    /** Eight relations, sixteen edges, a plan, more than eight acts, a text with room for no more. */
    static JoinOrders full() {
        JoinOrders x = new JoinOrders();
        for (int relation = 0; relation < 8; relation++) {
            x.add(2 + relation);
        }
        for (int edge = 0; edge < 16; edge++) {
            x.link(1 << edge % 8, 1 << (edge + 1 + edge / 8) % 8, 2 + edge % 3);
        }
        x.choose();
        x.image(1);
        typed(x, " ".repeat(500));
        return x;
    }
}
