import java.util.Arrays;
import java.util.NoSuchElementException;

/** A finder of join orders. Sets of relations are bits: relation r is the bit 1 shifted left by r. */
public final class JoinOrders {
    public static final int NONE = -1;

    private static final int MOST_RELATIONS = 8;
    private static final int MOST_EDGES = 16;
    private static final int MOST_JOINS = MOST_RELATIONS - 1;
    private static final int MOST_ROWS = 1000000;
    private static final int MOST_BY = 100000;
    private static final int MOST_LIMIT = 5000;
    private static final int FIRST_LIMIT = 1000;
    private static final int MOST_BYTES = 500;
    private static final int MOST_DIGITS = 7;
    private static final int MOST_ACTS = 8;
    private static final int MOST_IMAGES = 3;
    private static final int MOST_STEPS = 1000000;
    private static final int ALL_SETS = 1 << MOST_RELATIONS;
    /** Eight numbers, seven joins with two brackets and a blank each. */
    private static final int MOST_TOLD = MOST_RELATIONS + 3 * MOST_JOINS;
    private static final long CAP = 1000000000000000L;

    private static final int FAULT_FORM = 1;
    private static final int FAULT_NUMBER = 2;
    private static final int FAULT_AGAIN = 3;
    private static final int FAULT_MANY = 4;

    /** Kinds of tokens; OTHER is what can stand nowhere: other words and bytes, rows of too many digits. */
    private static final int END = 0;
    private static final int NUMBER = 1;
    private static final int SEMICOLON = 2;
    private static final int DASH = 3;
    private static final int OPEN = 4;
    private static final int CLOSE = 5;
    private static final int WORD_RELATION = 6;
    private static final int WORD_EDGE = 7;
    private static final int WORD_LIMIT = 8;
    private static final int WORD_BY = 9;
    private static final int OTHER = 10;

    private final State now;
    private final State[] images;
    private final Graph[] pastGraphs;
    private final Plan[] pastPlans;
    private int acts;
    private int nextAct;
    private final QueryReading queryReading;
    private final PlanReading planReading;
    private final Sets sets;
    private final Best bushy;
    private final Best line;
    private final Parts parts;
    private final Mover mover;
    private final Plan walk;
    private final int[] words;
    private final Graph trial;
    private final Sets trialSets;
    private final Best trialBest;

    public JoinOrders() {
        now = new State();
        images = new State[MOST_IMAGES];
        for (int k = 0; k < MOST_IMAGES; k++) {
            images[k] = new State();
        }
        pastGraphs = new Graph[MOST_ACTS];
        pastPlans = new Plan[MOST_ACTS];
        for (int k = 0; k < MOST_ACTS; k++) {
            pastGraphs[k] = new Graph();
            pastPlans[k] = new Plan();
        }
        queryReading = new QueryReading();
        planReading = new PlanReading();
        sets = new Sets();
        bushy = new Best();
        line = new Best();
        parts = new Parts();
        mover = new Mover();
        walk = new Plan();
        words = new int[MOST_TOLD];
        trial = new Graph();
        trialSets = new Sets();
        trialBest = new Best();
    }

    // ---- the text

    public int type(long eight) {
        return now.text.append(eight) ? now.text.length : NONE;
    }

    public int query() {
        if (!isSound(queryReading)) {
            return NONE;
        }
        now.graph.copy(queryReading.graph);
        now.plan.clear();
        acts = 0;
        forget();
        return now.graph.relations;
    }

    public int plan() {
        planReading.relations = now.graph.relations;
        if (!isSound(planReading)) {
            return NONE;
        }
        remember();
        now.plan.take(planReading.whole(), planReading.split);
        return now.plan.joins;
    }

    public int fault(boolean place) {
        return place ? now.place : now.fault;
    }

    // ---- acts

    public int add(int rows) {
        if (!Graph.canBeRows(rows) || now.graph.relations >= MOST_RELATIONS) {
            return NONE;
        }
        remember();
        now.graph.addRelation(rows);
        changed();
        return now.graph.relations - 1;
    }

    public boolean rows(int relation, int rows) {
        Graph graph = now.graph;
        if (!graph.hasRelation(relation) || !Graph.canBeRows(rows) || graph.rows[relation] == rows) {
            return false;
        }
        remember();
        graph.rows[relation] = rows;
        changed();
        return true;
    }

    public int link(int left, int right, int by) {
        Graph graph = now.graph;
        if (!graph.canLink(left, right) || !Graph.canBeBy(by) || graph.edges >= MOST_EDGES) {
            return NONE;
        }
        remember();
        graph.addEdge(left, right, by);
        changed();
        return graph.edges - 1;
    }

    public int cut(int edge) {
        if (!now.graph.hasEdge(edge)) {
            return NONE;
        }
        remember();
        now.graph.dropEdge(edge);
        changed();
        return now.graph.edges;
    }

    public boolean by(int edge, int by) {
        Graph graph = now.graph;
        if (!graph.hasEdge(edge) || !Graph.canBeBy(by) || graph.by[edge] == by) {
            return false;
        }
        remember();
        graph.by[edge] = by;
        changed();
        return true;
    }

    public boolean limit(int v) {
        if (!Graph.canBeLimit(v) || now.graph.limit == v) {
            return false;
        }
        remember();
        now.graph.limit = v;
        return true;
    }

    public int choose() {
        if (now.graph.relations == 0) {
            return NONE;
        }
        int all = now.graph.all();
        boolean small = pairedSets().pairsInAll <= now.graph.limit;
        remember();
        if (small) {
            now.plan.take(all, bestOf(false).part);
        } else {
            parts.mergeAll(now.graph, knownSets());
            now.plan.take(all, parts.split);
        }
        return small ? 0 : 1;
    }

    public int step() {
        if (now.plan.isNone()) {
            return NONE;
        }
        int k = mover.stepOf(now.plan, knownSets());
        if (k == NONE) {
            return 0;
        }
        remember();
        mover.make(now.plan, k);
        now.plan.copy(mover.made);
        return 1 + Mover.kindOf(k);
    }

    public int undo() {
        if (acts == 0) {
            return NONE;
        }
        acts--;
        nextAct = (nextAct + MOST_ACTS - 1) % MOST_ACTS;
        now.graph.copy(pastGraphs[nextAct]);
        now.plan.copy(pastPlans[nextAct]);
        forget();
        return acts;
    }

    // ---- what there is

    public int count(int what) {
        switch (what) {
            case 0: return now.graph.relations;
            case 1: return now.graph.edges;
            case 2: return now.graph.limit;
            case 3: return pairedSets().connectedInAll;
            case 4: return pairedSets().pairsInAll;
            case 5: return knownSets().cappedInAll;
            case 6: return connected(now.graph.all()) ? 1 : 0;
            case 7: return now.plan.isNone() ? NONE : now.plan.joins;
            case 8: return now.plan.isNone() ? NONE : knownSets().crossesOf(now.plan);
            case 9: return acts;
            case 10: return now.text.length;
            case 11: return parts.mergeJoined(now.graph, knownSets());
            default: return NONE;
        }
    }

    public int edge(int edge, int what) throws NoSuchElementException {
        if (!now.graph.hasEdge(edge)) {
            throw new NoSuchElementException("no such edge");
        }
        switch (what) {
            case 0: return now.graph.left[edge];
            case 1: return now.graph.right[edge];
            case 2: return now.graph.by[edge];
            default: throw new NoSuchElementException("an edge has no such number");
        }
    }

    public long size(int set, boolean capped) {
        if (!now.graph.holds(set)) {
            return NONE;
        }
        if (capped) {
            return knownSets().capped[set] ? 1 : 0;
        }
        return knownSets().sizes[set];
    }

    public boolean connected(int set) {
        return now.graph.holds(set) && pairedSets().connected[set];
    }

    public boolean joined(int one, int other) {
        return now.graph.canLink(one, other) && knownSets().areJoined(one, other);
    }

    public int pair(int k, boolean second) {
        if (k < 0 || k >= pairedSets().pairsInAll) {
            return NONE;
        }
        return sets.partOfPair(k, second);
    }

    public long best(int set, boolean linear, int what) {
        if (!now.graph.holds(set)) {
            return NONE;
        }
        Best found = bestOf(linear);
        switch (what) {
            case 0: return found.costs[set];
            case 1: return found.crosses[set];
            case 2: return found.part[set];
            default: return NONE;
        }
    }

    public long greedy(int what) {
        if (now.graph.relations == 0) {
            return NONE;
        }
        parts.mergeAll(now.graph, knownSets());
        walk.take(now.graph.all(), parts.split);
        switch (what) {
            case 0: return sets.costOf(walk, walk.root);
            case 1: return sets.crossesOf(walk);
            case 2: return walk.joins == 0 ? 0 : walk.part[0];
            default: return NONE;
        }
    }

    public long node(int k, int what) throws NoSuchElementException {
        Plan plan = now.plan;
        if (plan.isNone() || k < 0 || k >= plan.joins) {
            throw new NoSuchElementException("no such node");
        }
        switch (what) {
            case 0: return plan.set[k];
            case 1: return plan.part[k];
            case 2: return knownSets().sizes[plan.set[k]];
            case 3: return knownSets().costOf(plan, plan.set[k]);
            case 4: return knownSets().isCross(plan, k) ? 1 : 0;
            default: throw new NoSuchElementException("a node has no such number");
        }
    }

    public long cost() {
        return now.plan.isNone() ? NONE : knownSets().costOf(now.plan, now.plan.root);
    }

    public int told(int i) {
        if (now.plan.isNone()) {
            return NONE;
        }
        int length = now.plan.tell(words);
        if (i == NONE) {
            return length;
        }
        return i < 0 || i >= length ? NONE : words[i];
    }

    // ---- what would be

    public long move(int k) {
        if (now.plan.isNone()) {
            return NONE;
        }
        int many = Mover.movesOf(now.plan);
        if (k == NONE) {
            return many;
        }
        if (k < 0 || k >= many) {
            return NONE;
        }
        mover.make(now.plan, k);
        return knownSets().costOf(mover.made, mover.made.root);
    }

    public int steps() {
        if (now.plan.isNone()) {
            return NONE;
        }
        walk.copy(now.plan);
        for (int made = 0; made < MOST_STEPS; made++) {
            int k = mover.stepOf(walk, knownSets());
            if (k == NONE) {
                return made;
            }
            mover.make(walk, k);
            walk.copy(mover.made);
        }
        return MOST_STEPS;
    }

    public long would(boolean edge, int k, int v) {
        boolean can = edge
            ? now.graph.hasEdge(k) && Graph.canBeBy(v)
            : now.graph.hasRelation(k) && Graph.canBeRows(v);
        if (!can) {
            return NONE;
        }
        trial.copy(now.graph);
        if (edge) {
            trial.by[k] = v;
        } else {
            trial.rows[k] = v;
        }
        return costOfTrial();
    }

    public long needed(boolean much) {
        int found = NONE;
        long most = NONE;
        for (int edge = 0; edge < now.graph.edges; edge++) {
            trial.copy(now.graph);
            trial.dropEdge(edge);
            long without = costOfTrial();
            if (without > most) {
                most = without;
                found = edge;
            }
        }
        return much ? most : found;
    }

    // ---- kept

    public boolean image(int k) {
        if (k < 0 || k >= MOST_IMAGES) {
            return false;
        }
        images[k].copy(now);
        images[k].kept = true;
        return true;
    }

    public boolean again(int k) {
        if (k < 0 || k >= MOST_IMAGES || !images[k].kept) {
            return false;
        }
        now.copy(images[k]);
        acts = 0;
        forget();
        return true;
    }

    // ---- what the calls share

    private boolean isSound(Reading reading) {
        reading.read(now.text);
        now.text.length = 0;
        now.fault = reading.fault;
        now.place = reading.place;
        return reading.fault == 0;
    }

    /** Keeps what an act is about to change; of more than the latest few the oldest is written over. */
    private void remember() {
        pastGraphs[nextAct].copy(now.graph);
        pastPlans[nextAct].copy(now.plan);
        nextAct = (nextAct + 1) % MOST_ACTS;
        acts = Math.min(acts + 1, MOST_ACTS);
    }

    private void changed() {
        now.plan.clear();
        forget();
    }

    /** What was found of the relations and edges no longer holds; it is found anew when asked for. */
    private void forget() {
        sets.known = false;
        sets.paired = false;
        bushy.known = false;
        line.known = false;
    }

    private Sets knownSets() {
        if (!sets.known) {
            sets.measure(now.graph);
        }
        return sets;
    }

    private Sets pairedSets() {
        if (!sets.paired) {
            knownSets().findPairs();
        }
        return sets;
    }

    private Best bestOf(boolean linear) {
        Best found = linear ? line : bushy;
        if (!found.known) {
            found.find(knownSets(), linear);
        }
        return found;
    }

    private long costOfTrial() {
        trialSets.measure(trial);
        trialBest.find(trialSets, false);
        return trialBest.costs[trial.all()];
    }

    // ---- sets as bits

    private static boolean isOne(int set) {
        return Integer.bitCount(set) == 1;
    }

    private static int least(int set) {
        return set & -set;
    }

    /** The number of the relation that a set of one has: as many bits stand below its bit. */
    private static int relationOf(int one) {
        return Integer.bitCount(one - 1);
    }

    /** Of two sets with none in common, that with the least relation. */
    private static int firstOf(int one, int other) {
        return least(one) < least(other) ? one : other;
    }

    /** How many ways there are to make a set of two others; 0 of one relation. */
    private static int splitsOf(int set) {
        return (1 << Integer.bitCount(set ^ least(set))) - 1;
    }

    /** The next first part of a set, rising; the very first one is the least relation alone. */
    private static int nextPart(int set, int part) {
        int low = least(set);
        int rest = set ^ low;
        return low | (((part ^ low) - rest) & rest);
    }

    private static boolean isBetter(int crosses, long cost, int thanCrosses, long thanCost) {
        return crosses < thanCrosses || (crosses == thanCrosses && cost < thanCost);
    }

    /** Relations, edges and the limit. */
    private static final class Graph {
        int relations;
        int edges;
        int limit;
        final int[] rows;
        final int[] left;
        final int[] right;
        final int[] by;

        Graph() {
            limit = FIRST_LIMIT;
            rows = new int[MOST_RELATIONS];
            left = new int[MOST_EDGES];
            right = new int[MOST_EDGES];
            by = new int[MOST_EDGES];
        }

        static boolean canBeRows(int v) {
            return v >= 1 && v <= MOST_ROWS;
        }

        static boolean canBeBy(int v) {
            return v >= 1 && v <= MOST_BY;
        }

        static boolean canBeLimit(int v) {
            return v >= 0 && v <= MOST_LIMIT;
        }

        void clear() {
            relations = 0;
            edges = 0;
            limit = FIRST_LIMIT;
        }

        void copy(Graph from) {
            relations = from.relations;
            edges = from.edges;
            limit = from.limit;
            System.arraycopy(from.rows, 0, rows, 0, MOST_RELATIONS);
            System.arraycopy(from.left, 0, left, 0, MOST_EDGES);
            System.arraycopy(from.right, 0, right, 0, MOST_EDGES);
            System.arraycopy(from.by, 0, by, 0, MOST_EDGES);
        }

        int all() {
            return (1 << relations) - 1;
        }

        boolean holds(int set) {
            return set > 0 && set <= all();
        }

        boolean hasRelation(int relation) {
            return relation >= 0 && relation < relations;
        }

        boolean hasEdge(int edge) {
            return edge >= 0 && edge < edges;
        }

        boolean canLink(int one, int other) {
            return holds(one) && holds(other) && (one & other) == 0;
        }

        void addRelation(int itsRows) {
            if (relations < MOST_RELATIONS) {
                rows[relations] = itsRows;
                relations++;
            }
        }

        void addEdge(int itsLeft, int itsRight, int itsBy) {
            if (edges < MOST_EDGES) {
                left[edges] = itsLeft;
                right[edges] = itsRight;
                by[edges] = itsBy;
                edges++;
            }
        }

        void dropEdge(int edge) {
            if (hasEdge(edge)) {
                edges--;
                System.arraycopy(left, edge + 1, left, edge, edges - edge);
                System.arraycopy(right, edge + 1, right, edge, edges - edge);
                System.arraycopy(by, edge + 1, by, edge, edges - edge);
            }
        }
    }

    /** A plan as its joins in the order of their numbers, each a set and its part with the least relation. */
    private static final class Plan {
        /** All relations of the plan; 0 if there is no plan. */
        int root;
        int joins;
        final int[] set;
        final int[] part;

        Plan() {
            set = new int[MOST_JOINS];
            part = new int[MOST_JOINS];
        }

        boolean isNone() {
            return root == 0;
        }

        void clear() {
            root = 0;
            joins = 0;
        }

        void copy(Plan from) {
            root = from.root;
            joins = from.joins;
            System.arraycopy(from.set, 0, set, 0, MOST_JOINS);
            System.arraycopy(from.part, 0, part, 0, MOST_JOINS);
        }

        /** Becomes the plan of whole in which each set falls into its split and the rest. */
        void take(int whole, int[] split) {
            root = whole;
            joins = 0;
            place(whole, split, 0);
        }

        private void place(int whole, int[] split, int depth) {
            if (depth >= MOST_JOINS || joins >= MOST_JOINS || whole >= ALL_SETS || Integer.bitCount(whole) < 2) {
                return;
            }
            int first = split[whole];
            set[joins] = whole;
            part[joins] = first;
            joins++;
            place(first, split, depth + 1);
            place(whole ^ first, split, depth + 1);
        }

        /** The part with the least relation of one of the plan's sets, 0 of one relation. */
        int partOf(int whole) {
            for (int k = 0; k < joins; k++) {
                if (set[k] == whole) {
                    return part[k];
                }
            }
            return 0;
        }

        /** Writes the plan as a text: how many bytes it has. */
        int tell(int[] into) {
            return tellSet(root, into, 0, 0);
        }

        private int tellSet(int whole, int[] into, int from, int depth) {
            int first = partOf(whole);
            if (first == 0 || depth >= MOST_JOINS) {
                return put('0' + relationOf(whole), into, from);
            }
            int at = put('(', into, from);
            at = tellSet(first, into, at, depth + 1);
            at = put(' ', into, at);
            at = tellSet(whole ^ first, into, at, depth + 1);
            return put(')', into, at);
        }

        private static int put(int sign, int[] into, int at) {
            if (at < 0 || at >= into.length) {
                return at;
            }
            into[at] = sign;
            return at + 1;
        }
    }

    /** All that an image keeps. */
    private static final class State {
        final Graph graph;
        final Plan plan;
        final Text text;
        int fault;
        int place;
        boolean kept;

        State() {
            graph = new Graph();
            plan = new Plan();
            text = new Text();
            place = NONE;
        }

        void copy(State from) {
            graph.copy(from.graph);
            plan.copy(from.plan);
            text.copy(from.text);
            fault = from.fault;
            place = from.place;
        }
    }

    /** The text, and a reader's way over its tokens. */
    private static final class Text {
        int length;
        final int[] bytes;
        /** The token read last: its kind, where it starts, and its value, if it is a number. */
        int kind;
        int start;
        int number;
        private int at;

        Text() {
            bytes = new int[MOST_BYTES];
        }

        void copy(Text from) {
            length = from.length;
            System.arraycopy(from.bytes, 0, bytes, 0, MOST_BYTES);
        }

        boolean append(long eight) {
            int many = 0;
            while (many < 8 && byteOf(eight, many) != 0) {
                many++;
            }
            if (many > MOST_BYTES - length) {
                return false;
            }
            for (int i = 0; i < many; i++) {
                bytes[length] = byteOf(eight, i);
                length++;
            }
            return true;
        }

        private static int byteOf(long eight, int i) {
            return (int) (eight >>> (56 - 8 * i)) & 255;
        }

        void startOver() {
            at = 0;
        }

        void readToken() {
            while (at < length && (bytes[at] == ' ' || bytes[at] == '\n')) {
                at++;
            }
            start = at;
            if (at >= length) {
                kind = END;
            } else if (isDigit(bytes[at])) {
                readNumber();
            } else if (isLetter(bytes[at])) {
                readWord();
            } else {
                kind = signKind(bytes[at]);
                at++;
            }
        }

        private void readNumber() {
            number = 0;
            while (at < length && isDigit(bytes[at])) {
                // A longer row of digits is no number: its value is never used, so it may stop growing.
                if (at - start < MOST_DIGITS) {
                    number = number * 10 + (bytes[at] - '0');
                }
                at++;
            }
            kind = at - start > MOST_DIGITS ? OTHER : NUMBER;
        }

        private void readWord() {
            while (at < length && isLetter(bytes[at])) {
                at++;
            }
            if (isWord("relation")) {
                kind = WORD_RELATION;
            } else if (isWord("edge")) {
                kind = WORD_EDGE;
            } else if (isWord("limit")) {
                kind = WORD_LIMIT;
            } else {
                kind = isWord("by") ? WORD_BY : OTHER;
            }
        }

        private boolean isWord(String word) {
            if (at - start != word.length()) {
                return false;
            }
            for (int i = 0; i < word.length(); i++) {
                if (bytes[start + i] != word.charAt(i)) {
                    return false;
                }
            }
            return true;
        }

        private static int signKind(int sign) {
            switch (sign) {
                case ';': return SEMICOLON;
                case '-': return DASH;
                case '(': return OPEN;
                case ')': return CLOSE;
                default: return OTHER;
            }
        }

        private static boolean isDigit(int sign) {
            return sign >= '0' && sign <= '9';
        }

        private static boolean isLetter(int sign) {
            return sign >= 'a' && sign <= 'z';
        }
    }

    /** Reads a text token by token; a fault of form anywhere goes ahead of every other fault. */
    private abstract static class Reading {
        int fault;
        int place;

        abstract void begin();

        /** Whether a token of this kind can stand here. */
        abstract boolean canStand(int kind);

        /** Takes what the token tells: 0, or the fault that it has, other than of form. */
        abstract int absorb(Text text);

        /** Goes on behind a token that can stand here. */
        abstract void pass(int kind);

        void read(Text text) {
            fault = 0;
            place = NONE;
            begin();
            text.startOver();
            for (int i = 0; i <= MOST_BYTES; i++) {
                text.readToken();
                if (!canStand(text.kind)) {
                    fault = FAULT_FORM;
                    place = text.start;
                    return;
                }
                if (fault == 0) {
                    fault = absorb(text);
                    place = fault == 0 ? NONE : text.start;
                }
                pass(text.kind);
                if (text.kind == END) {
                    return;
                }
            }
        }
    }

    private static final class QueryReading extends Reading {
        /** What must come next. */
        private static final int SENTENCE = 0;
        private static final int ROWS = 1;
        private static final int SENTENCE_END = 2;
        private static final int LEFT = 3;
        private static final int MORE_LEFT = 4;
        private static final int RIGHT = 5;
        private static final int MORE_RIGHT = 6;
        private static final int BY = 7;
        private static final int LIMIT = 8;

        final Graph graph;
        private int awaited;
        private int left;
        private int right;

        QueryReading() {
            graph = new Graph();
        }

        void begin() {
            graph.clear();
            awaited = SENTENCE;
            left = 0;
            right = 0;
        }

        boolean canStand(int kind) {
            return after(kind) != NONE;
        }

        void pass(int kind) {
            awaited = after(kind);
        }

        /** What must come behind a token of this kind; NONE if it can not stand here. */
        private int after(int kind) {
            switch (awaited) {
                case SENTENCE: return afterWord(kind);
                case ROWS:
                case BY:
                case LIMIT: return kind == NUMBER ? SENTENCE_END : NONE;
                case SENTENCE_END: return kind == SEMICOLON ? SENTENCE : NONE;
                case LEFT: return kind == NUMBER ? MORE_LEFT : NONE;
                case MORE_LEFT: return kind == DASH ? RIGHT : kind == NUMBER ? MORE_LEFT : NONE;
                case RIGHT: return kind == NUMBER ? MORE_RIGHT : NONE;
                case MORE_RIGHT: return kind == WORD_BY ? BY : kind == NUMBER ? MORE_RIGHT : NONE;
                default: return NONE;
            }
        }

        private static int afterWord(int kind) {
            switch (kind) {
                case END: return SENTENCE;
                case WORD_RELATION: return ROWS;
                case WORD_EDGE: return LEFT;
                case WORD_LIMIT: return LIMIT;
                default: return NONE;
            }
        }

        int absorb(Text text) {
            if (text.kind == WORD_RELATION) {
                return graph.relations >= MOST_RELATIONS ? FAULT_MANY : 0;
            }
            if (text.kind == WORD_EDGE) {
                left = 0;
                right = 0;
                return graph.edges >= MOST_EDGES ? FAULT_MANY : 0;
            }
            return text.kind == NUMBER ? absorbNumber(text.number) : 0;
        }

        private int absorbNumber(int number) {
            switch (awaited) {
                case ROWS: return absorbRows(number);
                case BY: return absorbBy(number);
                case LIMIT: return absorbLimit(number);
                default: return absorbEnd(number);
            }
        }

        private int absorbRows(int number) {
            if (!Graph.canBeRows(number)) {
                return FAULT_NUMBER;
            }
            graph.addRelation(number);
            return 0;
        }

        private int absorbBy(int number) {
            if (!Graph.canBeBy(number)) {
                return FAULT_NUMBER;
            }
            graph.addEdge(left, right, number);
            return 0;
        }

        private int absorbLimit(int number) {
            if (!Graph.canBeLimit(number)) {
                return FAULT_NUMBER;
            }
            graph.limit = number;
            return 0;
        }

        /** Takes a relation of the edge that is being told, on the side that is being told. */
        private int absorbEnd(int relation) {
            if (!graph.hasRelation(relation)) {
                return FAULT_NUMBER;
            }
            int bit = 1 << relation;
            if (((left | right) & bit) != 0) {
                return FAULT_AGAIN;
            }
            if (awaited == LEFT || awaited == MORE_LEFT) {
                left |= bit;
            } else {
                right |= bit;
            }
            return 0;
        }
    }

    private static final class PlanReading extends Reading {
        int relations;
        /** Of each set that the plan joins, its part with the least relation. */
        final int[] split;
        /** How many plans stand in each bracket that is open; at 0, outside of all of them. */
        private final int[] within;
        private int depth;
        /** The sets of the plans that are read but not joined yet. */
        private final int[] waiting;
        private int waitingMany;
        private int taken;

        PlanReading() {
            split = new int[ALL_SETS];
            within = new int[MOST_BYTES + 1];
            waiting = new int[MOST_RELATIONS];
        }

        int whole() {
            return waiting[0];
        }

        void begin() {
            depth = 0;
            within[0] = 0;
            waitingMany = 0;
            taken = 0;
        }

        boolean canStand(int kind) {
            int most = depth == 0 ? 1 : 2;
            boolean full = within[depth] == most;
            switch (kind) {
                case NUMBER:
                case OPEN: return !full && depth < MOST_BYTES;
                case CLOSE: return full && depth > 0;
                case END: return full && depth == 0;
                default: return false;
            }
        }

        void pass(int kind) {
            if (kind == OPEN) {
                depth++;
                within[depth] = 0;
            } else if (kind == CLOSE) {
                depth--;
                within[depth]++;
            } else if (kind == NUMBER) {
                within[depth]++;
            }
        }

        int absorb(Text text) {
            if (text.kind == NUMBER) {
                return absorbRelation(text.number);
            }
            if (text.kind == CLOSE) {
                joinLastTwo();
            }
            return 0;
        }

        private int absorbRelation(int relation) {
            if (relation < 0 || relation >= relations) {
                return FAULT_NUMBER;
            }
            int bit = 1 << relation;
            if ((taken & bit) != 0 || waitingMany >= MOST_RELATIONS) {
                return FAULT_AGAIN;
            }
            taken |= bit;
            waiting[waitingMany] = bit;
            waitingMany++;
            return 0;
        }

        private void joinLastTwo() {
            if (waitingMany < 2) {
                return;
            }
            int second = waiting[waitingMany - 1];
            int first = waiting[waitingMany - 2];
            split[first | second] = firstOf(first, second);
            waiting[waitingMany - 2] = first | second;
            waitingMany--;
        }
    }

    /** What follows for each set from relations and edges: its size, and the pairs that make it. */
    private static final class Sets {
        boolean known;
        boolean paired;
        int cappedInAll;
        int connectedInAll;
        int pairsInAll;
        final long[] sizes;
        final boolean[] capped;
        final boolean[] connected;
        /** One more than the set of all relations. */
        private int end;
        /** Edges as bits, of which the left, or the right set, lies in a set. */
        private final int[] leftIn;
        private final int[] rightIn;
        private final int[] pairs;

        Sets() {
            sizes = new long[ALL_SETS];
            capped = new boolean[ALL_SETS];
            connected = new boolean[ALL_SETS];
            leftIn = new int[ALL_SETS];
            rightIn = new int[ALL_SETS];
            pairs = new int[ALL_SETS];
        }

        void measure(Graph graph) {
            end = 1 << graph.relations;
            lay(graph.left, graph, leftIn);
            lay(graph.right, graph, rightIn);
            sizes[0] = 1;
            capped[0] = false;
            cappedInAll = 0;
            for (int relation = 0; relation < graph.relations; relation++) {
                for (int ahead = 0; ahead < 1 << relation; ahead++) {
                    grow(graph, ahead, relation);
                }
            }
            known = true;
        }

        private void lay(int[] side, Graph graph, int[] in) {
            Arrays.fill(in, 0);
            for (int edge = 0; edge < graph.edges; edge++) {
                in[side[edge]] |= 1 << edge;
            }
            // What lies in a set lies in each set that has one relation more, too.
            for (int relation = 0; relation < graph.relations; relation++) {
                int bit = 1 << relation;
                for (int set = bit; set < end; set++) {
                    if ((set & bit) != 0) {
                        in[set] |= in[set ^ bit];
                    }
                }
            }
        }

        /** Measures the set of those ahead and a relation behind them all. */
        private void grow(Graph graph, int ahead, int relation) {
            int set = ahead | 1 << relation;
            int rows = Math.max(1, graph.rows[relation]);
            boolean over = sizes[ahead] > CAP / rows;
            long size = over ? CAP : sizes[ahead] * rows;
            int fresh = edgesIn(set) & ~edgesIn(ahead);
            for (int edge = 0; edge < graph.edges; edge++) {
                if ((fresh >> edge & 1) != 0) {
                    size = Math.max(1, size / Math.max(1, graph.by[edge]));
                }
            }
            sizes[set] = size;
            capped[set] = over || capped[ahead];
            cappedInAll += capped[set] ? 1 : 0;
        }

        private int edgesIn(int set) {
            return leftIn[set] & rightIn[set];
        }

        void findPairs() {
            connectedInAll = 0;
            pairsInAll = 0;
            for (int set = 1; set < end; set++) {
                // The parts of a set are lesser numbers, so it is known of them by now.
                pairs[set] = countPairs(set);
                pairsInAll += pairs[set];
                connected[set] = pairs[set] > 0 || isOne(set);
                connectedInAll += connected[set] ? 1 : 0;
            }
            paired = true;
        }

        private int countPairs(int set) {
            int found = 0;
            int splits = splitsOf(set);
            int first = least(set);
            for (int i = 0; i < splits; i++) {
                found += isPair(first, set ^ first) ? 1 : 0;
                first = nextPart(set, first);
            }
            return found;
        }

        private boolean isPair(int first, int second) {
            return connected[first] && connected[second] && areJoined(first, second);
        }

        boolean areJoined(int one, int other) {
            return (leftIn[one] & rightIn[other] | leftIn[other] & rightIn[one]) != 0;
        }

        /** A part of the k-th pair of all; NONE if there are not so many. */
        int partOfPair(int k, boolean second) {
            int left = k;
            for (int set = 1; set < end; set++) {
                if (left < pairs[set]) {
                    int first = firstOfPair(set, left);
                    return second ? set ^ first : first;
                }
                left -= pairs[set];
            }
            return NONE;
        }

        /** The first part of the k-th pair that makes a set, which has so many. */
        private int firstOfPair(int set, int k) {
            int left = k;
            int splits = splitsOf(set);
            int first = least(set);
            for (int i = 0; i < splits; i++) {
                if (isPair(first, set ^ first)) {
                    if (left == 0) {
                        return first;
                    }
                    left--;
                }
                first = nextPart(set, first);
            }
            return first;
        }

        boolean isCross(Plan plan, int k) {
            return !areJoined(plan.part[k], plan.set[k] ^ plan.part[k]);
        }

        int crossesOf(Plan plan) {
            int found = 0;
            for (int k = 0; k < plan.joins; k++) {
                found += isCross(plan, k) ? 1 : 0;
            }
            return found;
        }

        /** Cost of that part of a plan that joins one of its sets. */
        long costOf(Plan plan, int within) {
            long sum = 0;
            for (int k = 0; k < plan.joins; k++) {
                if ((plan.set[k] & ~within) == 0) {
                    sum += sizes[plan.set[k]];
                }
            }
            return Math.min(CAP, sum);
        }
    }

    /** The best plan of each set, or the best that takes one relation after the other. */
    private static final class Best {
        boolean known;
        final long[] costs;
        final int[] crosses;
        /** The part with the least relation; 0 of one relation. */
        final int[] part;

        Best() {
            costs = new long[ALL_SETS];
            crosses = new int[ALL_SETS];
            part = new int[ALL_SETS];
        }

        void find(Sets sets, boolean linear) {
            for (int set = 1; set < sets.end; set++) {
                findOf(set, sets, linear);
            }
            known = true;
        }

        private void findOf(int set, Sets sets, boolean linear) {
            costs[set] = 0;
            crosses[set] = 0;
            part[set] = 0;
            int splits = splitsOf(set);
            int first = least(set);
            for (int i = 0; i < splits; i++) {
                if (!linear || isOne(first) || isOne(set ^ first)) {
                    weigh(set, first, sets);
                }
                first = nextPart(set, first);
            }
        }

        /** Takes a split if it is better than the one at hand: of like ones the first, that is the least, stays. */
        private void weigh(int set, int first, Sets sets) {
            int second = set ^ first;
            int itsCrosses = crosses[first] + crosses[second] + (sets.areJoined(first, second) ? 0 : 1);
            long itsCost = Math.min(CAP, costs[first] + costs[second] + sets.sizes[set]);
            if (part[set] == 0 || isBetter(itsCrosses, itsCost, crosses[set], costs[set])) {
                costs[set] = itsCost;
                crosses[set] = itsCrosses;
                part[set] = first;
            }
        }
    }

    /** Plans that become one, two by two: they stand in the order of their least relations. */
    private static final class Parts {
        /** Of each set that was made, its part with the least relation. */
        final int[] split;
        private final int[] part;
        private int many;
        private int pickedFirst;
        private int pickedSecond;

        Parts() {
            split = new int[ALL_SETS];
            part = new int[MOST_RELATIONS];
        }

        /** Makes the greedy plan of all relations, told by split. */
        void mergeAll(Graph graph, Sets sets) {
            begin(graph);
            for (int left = many; left > 1; left--) {
                pick(sets);
                mergePicked();
            }
        }

        /** How many parts are left if only such are merged that are joined. */
        int mergeJoined(Graph graph, Sets sets) {
            begin(graph);
            for (int left = many; left > 1; left--) {
                pick(sets);
                if (!sets.areJoined(part[pickedFirst], part[pickedSecond])) {
                    return many;
                }
                mergePicked();
            }
            return many;
        }

        private void begin(Graph graph) {
            many = graph.relations;
            for (int relation = 0; relation < many; relation++) {
                part[relation] = 1 << relation;
            }
        }

        /** Picks the two of at least two parts that become one next. */
        private void pick(Sets sets) {
            pickedFirst = 0;
            pickedSecond = 1;
            for (int first = 0; first < many; first++) {
                for (int second = first + 1; second < many; second++) {
                    if (goesAhead(part[first], part[second], sets)) {
                        pickedFirst = first;
                        pickedSecond = second;
                    }
                }
            }
        }

        private boolean goesAhead(int first, int second, Sets sets) {
            int thanFirst = part[pickedFirst];
            int thanSecond = part[pickedSecond];
            boolean joined = sets.areJoined(first, second);
            if (joined != sets.areJoined(thanFirst, thanSecond)) {
                return joined;
            }
            long size = sets.sizes[first | second];
            long thanSize = sets.sizes[thanFirst | thanSecond];
            if (size != thanSize) {
                return size < thanSize;
            }
            return first != thanFirst ? first < thanFirst : second < thanSecond;
        }

        private void mergePicked() {
            int whole = part[pickedFirst] | part[pickedSecond];
            split[whole] = part[pickedFirst];
            part[pickedFirst] = whole;
            many--;
            System.arraycopy(part, pickedSecond + 1, part, pickedSecond, many - pickedSecond);
        }
    }

    /** Makes the moves of a plan: there are two for each join that is a part of another one. */
    private static final class Mover {
        final Plan made;
        private final int[] split;

        Mover() {
            made = new Plan();
            split = new int[ALL_SETS];
        }

        static int movesOf(Plan plan) {
            return plan.joins < 2 ? 0 : 2 * (plan.joins - 1);
        }

        static int kindOf(int k) {
            return k % 2;
        }

        /** Makes the k-th move of a plan that has so many. */
        void make(Plan plan, int k) {
            int left = k / 2;
            for (int node = 0; node < plan.joins; node++) {
                for (int side = 0; side < 2; side++) {
                    int part = side == 0 ? plan.part[node] : plan.set[node] ^ plan.part[node];
                    if (isOne(part)) {
                        continue;
                    }
                    if (left == 0) {
                        turn(plan, plan.set[node], part, kindOf(k));
                        return;
                    }
                    left--;
                }
            }
        }

        /** Of part, a join of two, one stays in whole, and the other one goes to what part was joined with. */
        private void turn(Plan plan, int whole, int part, int kind) {
            for (int k = 0; k < plan.joins; k++) {
                split[plan.set[k]] = plan.part[k];
            }
            int first = split[part];
            int stays = kind == 0 ? first : part ^ first;
            int goes = part ^ stays;
            int other = whole ^ part;
            split[goes | other] = firstOf(goes, other);
            split[whole] = firstOf(stays, goes | other);
            made.take(plan.root, split);
        }

        /** Which move is the step of a plan; NONE if no move is better. */
        int stepOf(Plan plan, Sets sets) {
            int found = NONE;
            int crosses = sets.crossesOf(plan);
            long cost = sets.costOf(plan, plan.root);
            int many = movesOf(plan);
            for (int k = 0; k < many; k++) {
                make(plan, k);
                int itsCrosses = sets.crossesOf(made);
                long itsCost = sets.costOf(made, made.root);
                if (isBetter(itsCrosses, itsCost, crosses, cost)) {
                    found = k;
                    crosses = itsCrosses;
                    cost = itsCost;
                }
            }
            return found;
        }
    }
}
