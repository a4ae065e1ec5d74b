import java.util.NoSuchElementException;

/** All that an object tells when it is asked, as one text: two objects in the same state tell the same. */
final class Answers {
    /** An object is promised to answer 512 calls; what led to it and what it is asked must both find room in them. */
    private static final int MOST_CALLS = 420;

    private static final int NONE = JoinOrders.NONE;

    private final JoinOrders x;
    private final StringBuilder told = new StringBuilder();
    private int calls = 0;

    private Answers(JoinOrders x) {
        this.x = x;
    }

    /** With all that is, or without THE TEXT and the FAULT. */
    static String of(JoinOrders x, boolean withText) {
        Answers answers = new Answers(x);
        answers.askCounts(withText);
        answers.askEdges();
        answers.askSets();
        answers.askPairs();
        answers.askPlan();
        answers.askWhatWouldBe();
        if (answers.calls > MOST_CALLS) {
            throw new IllegalStateException(answers.calls + " calls are too many");
        }
        return answers.told.toString();
    }

    private interface Question {
        long ask();
    }

    private long put(String name, Question question) {
        calls++;
        long answer;
        try {
            answer = question.ask();
        } catch (NoSuchElementException e) {
            answer = Long.MIN_VALUE;
        }
        told.append(name).append('=').append(answer).append(' ');
        return answer;
    }

    private static long b(boolean v) {
        return v ? 1 : 0;
    }

    private void askCounts(boolean withText) {
        for (int what = 0; what < 12; what++) {
            int w = what;
            if (withText || w != 10) {
                put("count" + w, () -> x.count(w));
            }
        }
        if (withText) {
            put("fault", () -> x.fault(false));
            put("place", () -> x.fault(true));
        }
    }

    private void askEdges() {
        int edges = x.count(1);
        for (int edge = 0; edge <= edges; edge++) {
            int e = edge;
            for (int what = 0; what < 3; what++) {
                int w = what;
                put("edge" + e + "." + w, () -> x.edge(e, w));
            }
        }
    }

    /** Each relation alone, each with the next one, all up to each, and of few relations all sets. */
    private void askSets() {
        int relations = x.count(0);
        for (int set = 1; set < 1 << relations; set++) {
            boolean row = (set & set + (set & -set)) == 0;
            if (relations <= 4 || row && (Integer.bitCount(set) <= 2 || (set & 1) != 0)) {
                askSet(set, (1 << relations) - 1);
            }
        }
    }

    private void askSet(int set, int all) {
        put("size" + set, () -> x.size(set, false));
        put("capped" + set, () -> x.size(set, true));
        put("connected" + set, () -> b(x.connected(set)));
        put("joined" + set, () -> b(x.joined(set, all ^ set)));
        put("best" + set, () -> x.best(set, false, 0));
        put("part" + set, () -> x.best(set, false, 2));
        put("linear" + set, () -> x.best(set, true, 0));
    }

    private void askPairs() {
        int pairs = x.count(4);
        for (int pair = Math.max(0, pairs - 6); pair <= pairs; pair++) {
            int k = pair;
            put("pair" + k, () -> x.pair(k, false));
            put("pair" + k, () -> x.pair(k, true));
        }
        put("crosses", () -> x.best((1 << x.count(0)) - 1, false, 1));
        for (int what = 0; what < 3; what++) {
            int w = what;
            put("greedy" + w, () -> x.greedy(w));
        }
    }

    private void askPlan() {
        put("cost", () -> x.cost());
        long joins = x.count(7);
        for (int node = 0; node < joins; node++) {
            int k = node;
            for (int what = 0; what < 5; what++) {
                int w = what;
                put("node" + k + "." + w, () -> x.node(k, w));
            }
        }
        long bytes = put("bytes", () -> x.told(NONE));
        for (int i = 0; i < bytes; i++) {
            int at = i;
            put("told" + at, () -> x.told(at));
        }
        long moves = put("moves", () -> x.move(NONE));
        for (int move = 0; move < moves; move++) {
            int k = move;
            put("move" + k, () -> x.move(k));
        }
        put("steps", () -> x.steps());
    }

    private void askWhatWouldBe() {
        put("would", () -> x.would(false, 0, 3));
        put("would", () -> x.would(true, 0, 3));
        put("needed", () -> x.needed(false));
        put("needed", () -> x.needed(true));
    }
}
