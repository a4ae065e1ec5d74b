import java.math.BigInteger;
import java.util.ArrayDeque;
import java.util.ArrayList;
import java.util.Deque;
import java.util.HashMap;
import java.util.List;
import java.util.Map;
import java.util.NoSuchElementException;
import java.util.TreeSet;

/**
 * The document's words once more, told as naively as they stand, with the whole library at hand.
 * It shares no code and no way of holding things with JoinOrders; RunsAgainstModel compares both.
 */
final class Model {
    static final int NONE = -1;
    static final BigInteger CAP = BigInteger.valueOf(1000000000000000L);

    record Edge(TreeSet<Integer> left, TreeSet<Integer> right, int by) {
        TreeSet<Integer> both() {
            TreeSet<Integer> all = new TreeSet<>(left);
            all.addAll(right);
            return all;
        }
    }

    /** A plan: of one relation (then first and second are null), or of two plans, the first with the least. */
    record Tree(int relation, Tree first, Tree second) {
        static Tree of(Tree one, Tree other) {
            return one.least() < other.least() ? new Tree(NONE, one, other) : new Tree(NONE, other, one);
        }

        boolean join() {
            return first != null;
        }

        int least() {
            return join() ? Math.min(first.least(), second.least()) : relation;
        }

        TreeSet<Integer> set() {
            TreeSet<Integer> all = new TreeSet<>();
            if (join()) {
                all.addAll(first.set());
                all.addAll(second.set());
            } else {
                all.add(relation);
            }
            return all;
        }

        String told() {
            return join() ? "(" + first.told() + " " + second.told() + ")" : String.valueOf(relation);
        }

        List<Tree> nodes() {
            List<Tree> all = new ArrayList<>();
            if (join()) {
                all.add(this);
                all.addAll(first.nodes());
                all.addAll(second.nodes());
            }
            return all;
        }

        /** This plan with one node put in place of another one. */
        Tree with(Tree node, Tree instead) {
            if (this == node) {
                return instead;
            }
            return join() ? of(first.with(node, instead), second.with(node, instead)) : this;
        }
    }

    record Facts(List<Integer> rows, List<Edge> edges, int limit) {
    }

    record Moment(Facts facts, Tree plan) {
    }

    record Image(Moment moment, String text, int fault, int place) {
    }

    private Facts facts = new Facts(List.of(), List.of(), 1000);
    private Tree plan = null;
    private String text = "";
    private int fault = 0;
    private int place = NONE;
    private final Deque<Moment> past = new ArrayDeque<>();
    private final Map<Integer, Image> images = new HashMap<>();
    private final Map<Facts, Map<String, Object>> memo = new java.util.IdentityHashMap<>();

    // ---- sets

    static int bits(TreeSet<Integer> set) {
        int bits = 0;
        for (int r : set) {
            bits += 1 << r;
        }
        return bits;
    }

    static TreeSet<Integer> set(int bits) {
        TreeSet<Integer> set = new TreeSet<>();
        for (int r = 0; r < 32; r++) {
            if ((bits >>> r & 1) == 1) {
                set.add(r);
            }
        }
        return set;
    }

    private static boolean isSet(Facts f, int bits) {
        TreeSet<Integer> set = set(bits);
        return !set.isEmpty() && set.last() < f.rows.size();
    }

    // ---- sizes

    private static Object[] sized(Facts f, TreeSet<Integer> set) {
        BigInteger size = BigInteger.ONE;
        boolean capped = false;
        TreeSet<Integer> ahead = new TreeSet<>();
        for (int r : set) {
            size = size.multiply(BigInteger.valueOf(f.rows.get(r)));
            if (size.compareTo(CAP) > 0) {
                size = CAP;
                capped = true;
            }
            TreeSet<Integer> till = new TreeSet<>(ahead);
            till.add(r);
            for (Edge e : f.edges) {
                if (till.containsAll(e.both()) && !ahead.containsAll(e.both())) {
                    size = size.divide(BigInteger.valueOf(e.by)).max(BigInteger.ONE);
                }
            }
            ahead = till;
        }
        return new Object[] {size, capped};
    }

    private Object[] sizes(Facts f, TreeSet<Integer> set) {
        return (Object[]) remembered(f, "size " + set, () -> sized(f, set));
    }

    private BigInteger sizeOf(Facts f, TreeSet<Integer> set) {
        return (BigInteger) sizes(f, set)[0];
    }

    private Object remembered(Facts f, String key, java.util.function.Supplier<Object> make) {
        Map<String, Object> own = memo.computeIfAbsent(f, x -> new HashMap<>());
        if (!own.containsKey(key)) {
            own.put(key, make.get());
        }
        return own.get(key);
    }

    private static boolean joinedSets(Facts f, TreeSet<Integer> one, TreeSet<Integer> other) {
        for (Edge e : f.edges) {
            if (one.containsAll(e.left) && other.containsAll(e.right)
                || other.containsAll(e.left) && one.containsAll(e.right)) {
                return true;
            }
        }
        return false;
    }

    /** All ways to make a set of two, the first with the least relation, rising by the first as bits. */
    private static List<List<TreeSet<Integer>>> splits(TreeSet<Integer> whole) {
        List<List<TreeSet<Integer>>> found = new ArrayList<>();
        for (int bits = 1; bits < bits(whole); bits++) {
            TreeSet<Integer> one = set(bits);
            TreeSet<Integer> other = new TreeSet<>(whole);
            other.removeAll(one);
            if (whole.containsAll(one) && one.first().equals(whole.first())) {
                found.add(List.of(one, other));
            }
        }
        return found;
    }

    private boolean connectedSet(Facts f, TreeSet<Integer> whole) {
        return whole.size() == 1 || !pairsOf(f, whole).isEmpty();
    }

    @SuppressWarnings("unchecked")
    private List<List<TreeSet<Integer>>> pairsOf(Facts f, TreeSet<Integer> whole) {
        return (List<List<TreeSet<Integer>>>) remembered(f, "pairs " + whole, () -> {
            List<List<TreeSet<Integer>>> found = new ArrayList<>();
            for (List<TreeSet<Integer>> two : splits(whole)) {
                if (joinedSets(f, two.get(0), two.get(1)) && connectedSet(f, two.get(0)) && connectedSet(f, two.get(1))) {
                    found.add(two);
                }
            }
            return found;
        });
    }

    private List<List<TreeSet<Integer>>> pairs(Facts f) {
        List<List<TreeSet<Integer>>> all = new ArrayList<>();
        for (int bits = 1; bits < 1 << f.rows.size(); bits++) {
            all.addAll(pairsOf(f, set(bits)));
        }
        return all;
    }

    // ---- plans

    private int crossesOf(Facts f, Tree tree) {
        int found = 0;
        for (Tree node : tree.nodes()) {
            found += joinedSets(f, node.first.set(), node.second.set()) ? 0 : 1;
        }
        return found;
    }

    private long costOf(Facts f, Tree tree) {
        BigInteger sum = BigInteger.ZERO;
        for (Tree node : tree.nodes()) {
            sum = sum.add(sizeOf(f, node.set()));
        }
        return sum.min(CAP).longValueExact();
    }

    private boolean better(Facts f, Tree one, Tree than) {
        int crosses = crossesOf(f, one);
        int thanCrosses = crossesOf(f, than);
        return crosses < thanCrosses || crosses == thanCrosses && costOf(f, one) < costOf(f, than);
    }

    private Tree bestOf(Facts f, TreeSet<Integer> whole, boolean linear) {
        return (Tree) remembered(f, "best " + linear + whole, () -> {
            if (whole.size() == 1) {
                return new Tree(whole.first(), null, null);
            }
            Tree best = null;
            for (List<TreeSet<Integer>> two : splits(whole)) {
                if (linear && two.get(0).size() > 1 && two.get(1).size() > 1) {
                    continue;
                }
                Tree tree = Tree.of(bestOf(f, two.get(0), linear), bestOf(f, two.get(1), linear));
                if (best == null || better(f, tree, best)) {
                    best = tree;
                }
            }
            return best;
        });
    }

    private Tree greedyOf(Facts f) {
        List<Tree> trees = new ArrayList<>();
        for (int r = 0; r < f.rows.size(); r++) {
            trees.add(new Tree(r, null, null));
        }
        while (trees.size() > 1) {
            List<Tree[]> all = new ArrayList<>();
            for (Tree one : trees) {
                for (Tree other : trees) {
                    if (one.least() < other.least()) {
                        all.add(new Tree[] {one, other});
                    }
                }
            }
            boolean any = all.stream().anyMatch(t -> joinedSets(f, t[0].set(), t[1].set()));
            if (any) {
                all.removeIf(t -> !joinedSets(f, t[0].set(), t[1].set()));
            }
            all.sort(java.util.Comparator
                .comparing((Tree[] t) -> sizeOf(f, Tree.of(t[0], t[1]).set()))
                .thenComparing(t -> bits(t[0].set()))
                .thenComparing(t -> bits(t[1].set())));
            Tree[] two = all.get(0);
            trees.remove(two[0]);
            trees.remove(two[1]);
            trees.add(Tree.of(two[0], two[1]));
        }
        return trees.get(0);
    }

    private static List<Tree> moves(Tree tree) {
        List<Tree> found = new ArrayList<>();
        for (Tree node : tree.nodes()) {
            for (Tree[] t : new Tree[][] {{node.first, node.second}, {node.second, node.first}}) {
                if (t[0].join()) {
                    Tree a = t[0].first;
                    Tree b = t[0].second;
                    Tree c = t[1];
                    found.add(tree.with(node, Tree.of(a, Tree.of(b, c))));
                    found.add(tree.with(node, Tree.of(b, Tree.of(a, c))));
                }
            }
        }
        return found;
    }

    private int stepMove(Tree tree) {
        List<Tree> all = moves(tree);
        int found = NONE;
        for (int k = 0; k < all.size(); k++) {
            if (better(facts, all.get(k), found == NONE ? tree : all.get(found))) {
                found = k;
            }
        }
        return found;
    }

    // ---- texts

    record Token(String what, int at) {
        boolean number() {
            return !what.isEmpty() && Character.isDigit(what.charAt(0));
        }

        int value() {
            return Integer.parseInt(what);
        }
    }

    /** Tokens up to the first byte that begins none, which is told as the token "?"; the end is "". */
    private static List<Token> tokens(String text) {
        List<Token> all = new ArrayList<>();
        java.util.regex.Matcher m = java.util.regex.Pattern
            .compile("[ \n]+|([a-z]+)|([0-9]{1,7})(?![0-9])|([-;()])").matcher(text);
        int at = 0;
        while (at < text.length()) {
            m.region(at, text.length());
            m.useTransparentBounds(true);
            if (!m.lookingAt()) {
                all.add(new Token("?", at));
                return all;
            }
            if (!m.group().isBlank()) {
                all.add(new Token(m.group(), at));
            }
            at = m.end();
        }
        all.add(new Token("", text.length()));
        return all;
    }

    private static final class Wrong extends RuntimeException {
        private static final long serialVersionUID = 1L;
        final int fault;
        final int place;

        Wrong(int fault, int place) {
            this.fault = fault;
            this.place = place;
        }
    }

    private static final class Parser {
        final List<Token> tokens;
        int at = 0;

        Parser(String text) {
            tokens = Model.tokens(text);
        }

        Token peek() {
            return tokens.get(at);
        }

        Token number() {
            if (!peek().number()) {
                throw new Wrong(1, peek().at);
            }
            return tokens.get(at++);
        }

        Token exactly(String what) {
            if (!peek().what.equals(what)) {
                throw new Wrong(1, peek().at);
            }
            return tokens.get(at++);
        }

        List<Token> numbers() {
            List<Token> all = new ArrayList<>();
            all.add(number());
            while (peek().number()) {
                all.add(number());
            }
            return all;
        }
    }

    record Sentence(Token word, List<Token> left, List<Token> right, Token number) {
    }

    private static List<Sentence> sentences(String text) {
        Parser p = new Parser(text);
        List<Sentence> all = new ArrayList<>();
        while (!p.peek().what.equals("")) {
            if (p.peek().what.equals("edge")) {
                Token word = p.exactly("edge");
                List<Token> left = p.numbers();
                p.exactly("-");
                List<Token> right = p.numbers();
                p.exactly("by");
                all.add(new Sentence(word, left, right, p.number()));
            } else {
                Token word = p.exactly(p.peek().what.equals("limit") ? "limit" : "relation");
                all.add(new Sentence(word, List.of(), List.of(), p.number()));
            }
            p.exactly(";");
        }
        return all;
    }

    private static TreeSet<Integer> side(List<Token> tokens, TreeSet<Integer> other, int relations) {
        TreeSet<Integer> own = new TreeSet<>();
        for (Token t : tokens) {
            if (t.value() >= relations) {
                throw new Wrong(2, t.at);
            }
            if (other.contains(t.value()) || !own.add(t.value())) {
                throw new Wrong(3, t.at);
            }
        }
        return own;
    }

    private static int inRange(Token t, int least, int most) {
        if (t.value() < least || t.value() > most) {
            throw new Wrong(2, t.at);
        }
        return t.value();
    }

    private static Facts factsOf(String text) {
        List<Integer> rows = new ArrayList<>();
        List<Edge> edges = new ArrayList<>();
        int limit = 1000;
        for (Sentence s : sentences(text)) {
            switch (s.word.what) {
                case "relation" -> {
                    if (rows.size() == 8) {
                        throw new Wrong(4, s.word.at);
                    }
                    rows.add(inRange(s.number, 1, 1000000));
                }
                case "edge" -> {
                    if (edges.size() == 16) {
                        throw new Wrong(4, s.word.at);
                    }
                    TreeSet<Integer> left = side(s.left, new TreeSet<>(), rows.size());
                    TreeSet<Integer> right = side(s.right, left, rows.size());
                    edges.add(new Edge(left, right, inRange(s.number, 1, 100000)));
                }
                default -> limit = inRange(s.number, 0, 5000);
            }
        }
        return new Facts(rows, edges, limit);
    }

    private static Tree form(Parser p) {
        if (p.peek().number()) {
            // The place stands in for the relation until the form of the whole text is known to be right.
            return new Tree(p.number().at, null, null);
        }
        p.exactly("(");
        Tree first = form(p);
        Tree second = form(p);
        p.exactly(")");
        return new Tree(NONE, first, second);
    }

    private Tree meant(Tree form, Map<Integer, Integer> values, TreeSet<Integer> seen) {
        if (form.join()) {
            Tree first = meant(form.first, values, seen);
            return Tree.of(first, meant(form.second, values, seen));
        }
        int value = values.get(form.relation);
        if (value >= facts.rows.size()) {
            throw new Wrong(2, form.relation);
        }
        if (!seen.add(value)) {
            throw new Wrong(3, form.relation);
        }
        return new Tree(value, null, null);
    }

    private Tree treeOf(String told) {
        Parser p = new Parser(told);
        Tree form = form(p);
        p.exactly("");
        Map<Integer, Integer> values = new HashMap<>();
        for (Token t : p.tokens) {
            if (t.number()) {
                values.put(t.at, t.value());
            }
        }
        return meant(form, values, new TreeSet<>());
    }

    // ---- the face

    int type(long eight) {
        StringBuilder more = new StringBuilder();
        for (byte b : java.nio.ByteBuffer.allocate(8).putLong(eight).array()) {
            if (b == 0) {
                break;
            }
            more.append((char) Byte.toUnsignedInt(b));
        }
        if (text.length() + more.length() > 500) {
            return NONE;
        }
        text += more;
        return text.length();
    }

    int query() {
        String told = text;
        text = "";
        try {
            facts = factsOf(told);
        } catch (Wrong w) {
            fault = w.fault;
            place = w.place;
            return NONE;
        }
        fault = 0;
        place = NONE;
        plan = null;
        past.clear();
        return facts.rows.size();
    }

    int plan() {
        String told = text;
        text = "";
        Tree tree;
        try {
            tree = treeOf(told);
        } catch (Wrong w) {
            fault = w.fault;
            place = w.place;
            return NONE;
        }
        fault = 0;
        place = NONE;
        act(facts, tree);
        return tree.nodes().size();
    }

    int fault(boolean where) {
        return where ? place : fault;
    }

    private void act(Facts newFacts, Tree newPlan) {
        past.addLast(new Moment(facts, plan));
        if (past.size() > 8) {
            past.removeFirst();
        }
        facts = newFacts;
        plan = newPlan;
    }

    private static <T> List<T> changed(List<T> list, int at, T value) {
        List<T> other = new ArrayList<>(list);
        other.set(at, value);
        return other;
    }

    private static <T> List<T> longer(List<T> list, T value) {
        List<T> other = new ArrayList<>(list);
        other.add(value);
        return other;
    }

    private static <T> List<T> without(List<T> list, int at) {
        List<T> other = new ArrayList<>(list);
        other.remove(at);
        return other;
    }

    private static boolean within(int v, int least, int most) {
        return v >= least && v <= most;
    }

    int add(int rows) {
        if (!within(rows, 1, 1000000) || facts.rows.size() == 8) {
            return NONE;
        }
        act(new Facts(longer(facts.rows, rows), facts.edges, facts.limit), null);
        return facts.rows.size() - 1;
    }

    boolean rows(int relation, int rows) {
        if (!within(relation, 0, facts.rows.size() - 1) || !within(rows, 1, 1000000) || facts.rows.get(relation) == rows) {
            return false;
        }
        act(new Facts(changed(facts.rows, relation, rows), facts.edges, facts.limit), null);
        return true;
    }

    int link(int left, int right, int by) {
        if (!isSet(facts, left) || !isSet(facts, right) || (left & right) != 0 || !within(by, 1, 100000)
            || facts.edges.size() == 16) {
            return NONE;
        }
        act(new Facts(facts.rows, longer(facts.edges, new Edge(set(left), set(right), by)), facts.limit), null);
        return facts.edges.size() - 1;
    }

    int cut(int edge) {
        if (!within(edge, 0, facts.edges.size() - 1)) {
            return NONE;
        }
        act(new Facts(facts.rows, without(facts.edges, edge), facts.limit), null);
        return facts.edges.size();
    }

    boolean by(int edge, int by) {
        if (!within(edge, 0, facts.edges.size() - 1) || !within(by, 1, 100000) || facts.edges.get(edge).by == by) {
            return false;
        }
        Edge old = facts.edges.get(edge);
        act(new Facts(facts.rows, changed(facts.edges, edge, new Edge(old.left, old.right, by)), facts.limit), null);
        return true;
    }

    boolean limit(int v) {
        if (!within(v, 0, 5000) || v == facts.limit) {
            return false;
        }
        act(new Facts(facts.rows, facts.edges, v), plan);
        return true;
    }

    int choose() {
        if (facts.rows.isEmpty()) {
            return NONE;
        }
        boolean small = pairs(facts).size() <= facts.limit;
        act(facts, small ? bestOf(facts, all(), false) : greedyOf(facts));
        return small ? 0 : 1;
    }

    private TreeSet<Integer> all() {
        return set((1 << facts.rows.size()) - 1);
    }

    int step() {
        if (plan == null) {
            return NONE;
        }
        int k = stepMove(plan);
        if (k == NONE) {
            return 0;
        }
        act(facts, moves(plan).get(k));
        return 1 + k % 2;
    }

    int undo() {
        if (past.isEmpty()) {
            return NONE;
        }
        Moment m = past.removeLast();
        facts = m.facts;
        plan = m.plan;
        return past.size();
    }

    int count(int what) {
        List<TreeSet<Integer>> sets = new ArrayList<>();
        for (int bits = 1; bits < 1 << facts.rows.size(); bits++) {
            sets.add(set(bits));
        }
        return switch (what) {
            case 0 -> facts.rows.size();
            case 1 -> facts.edges.size();
            case 2 -> facts.limit;
            case 3 -> (int) sets.stream().filter(s -> connectedSet(facts, s)).count();
            case 4 -> pairs(facts).size();
            case 5 -> (int) sets.stream().filter(s -> (boolean) sizes(facts, s)[1]).count();
            case 6 -> !facts.rows.isEmpty() && connectedSet(facts, all()) ? 1 : 0;
            case 7 -> plan == null ? NONE : plan.nodes().size();
            case 8 -> plan == null ? NONE : crossesOf(facts, plan);
            case 9 -> past.size();
            case 10 -> text.length();
            case 11 -> fallen();
            default -> NONE;
        };
    }

    private int fallen() {
        List<TreeSet<Integer>> parts = new ArrayList<>();
        for (int r = 0; r < facts.rows.size(); r++) {
            parts.add(set(1 << r));
        }
        boolean more = true;
        while (more) {
            more = false;
            for (int i = parts.size() - 1; i >= 0 && !more; i--) {
                for (int j = parts.size() - 1; j > i && !more; j--) {
                    if (joinedSets(facts, parts.get(i), parts.get(j))) {
                        parts.get(i).addAll(parts.remove(j));
                        more = true;
                    }
                }
            }
        }
        return parts.size();
    }

    int edge(int edge, int what) {
        if (!within(edge, 0, facts.edges.size() - 1) || !within(what, 0, 2)) {
            throw new NoSuchElementException();
        }
        Edge e = facts.edges.get(edge);
        return what == 0 ? bits(e.left) : what == 1 ? bits(e.right) : e.by;
    }

    long size(int set, boolean capped) {
        if (!isSet(facts, set)) {
            return NONE;
        }
        return capped ? ((boolean) sizes(facts, set(set))[1] ? 1 : 0) : sizeOf(facts, set(set)).longValueExact();
    }

    boolean connected(int set) {
        return isSet(facts, set) && connectedSet(facts, set(set));
    }

    boolean joined(int one, int other) {
        return isSet(facts, one) && isSet(facts, other) && (one & other) == 0 && joinedSets(facts, set(one), set(other));
    }

    int pair(int k, boolean second) {
        List<List<TreeSet<Integer>>> all = pairs(facts);
        return within(k, 0, all.size() - 1) ? bits(all.get(k).get(second ? 1 : 0)) : NONE;
    }

    private long toldOf(Tree tree, int what) {
        return switch (what) {
            case 0 -> costOf(facts, tree);
            case 1 -> crossesOf(facts, tree);
            case 2 -> tree.join() ? bits(tree.first.set()) : 0;
            default -> NONE;
        };
    }

    long best(int set, boolean linear, int what) {
        return isSet(facts, set) ? toldOf(bestOf(facts, set(set), linear), what) : NONE;
    }

    long greedy(int what) {
        return facts.rows.isEmpty() ? NONE : toldOf(greedyOf(facts), what);
    }

    long node(int k, int what) {
        if (plan == null || !within(k, 0, plan.nodes().size() - 1) || !within(what, 0, 4)) {
            throw new NoSuchElementException();
        }
        Tree node = plan.nodes().get(k);
        return switch (what) {
            case 0 -> bits(node.set());
            case 1 -> bits(node.first.set());
            case 2 -> sizeOf(facts, node.set()).longValueExact();
            case 3 -> costOf(facts, node);
            default -> joinedSets(facts, node.first.set(), node.second.set()) ? 0 : 1;
        };
    }

    long cost() {
        return plan == null ? NONE : costOf(facts, plan);
    }

    int told(int i) {
        if (plan == null) {
            return NONE;
        }
        String told = plan.told();
        return i == NONE ? told.length() : within(i, 0, told.length() - 1) ? told.charAt(i) : NONE;
    }

    long move(int k) {
        if (plan == null) {
            return NONE;
        }
        List<Tree> all = moves(plan);
        return k == NONE ? all.size() : within(k, 0, all.size() - 1) ? costOf(facts, all.get(k)) : NONE;
    }

    int steps() {
        if (plan == null) {
            return NONE;
        }
        Tree tree = plan;
        int made = 0;
        for (int k = stepMove(tree); k != NONE; k = stepMove(tree)) {
            tree = moves(tree).get(k);
            made++;
        }
        return made;
    }

    private long costOfBest(Facts other) {
        long cost = costOf(other, bestOf(other, all(), false));
        memo.remove(other);
        return cost;
    }

    long would(boolean edge, int k, int v) {
        if (edge) {
            if (!within(k, 0, facts.edges.size() - 1) || !within(v, 1, 100000)) {
                return NONE;
            }
            Edge old = facts.edges.get(k);
            return costOfBest(new Facts(facts.rows, changed(facts.edges, k, new Edge(old.left, old.right, v)), 0));
        }
        if (!within(k, 0, facts.rows.size() - 1) || !within(v, 1, 1000000)) {
            return NONE;
        }
        return costOfBest(new Facts(changed(facts.rows, k, v), facts.edges, 0));
    }

    long needed(boolean much) {
        int found = NONE;
        long most = NONE;
        for (int e = 0; e < facts.edges.size(); e++) {
            long cost = costOfBest(new Facts(facts.rows, without(facts.edges, e), 0));
            if (found == NONE || cost > most) {
                found = e;
                most = cost;
            }
        }
        return much ? most : found;
    }

    boolean image(int k) {
        if (!within(k, 0, 2)) {
            return false;
        }
        images.put(k, new Image(new Moment(facts, plan), text, fault, place));
        return true;
    }

    boolean again(int k) {
        Image i = images.get(k);
        if (i == null) {
            return false;
        }
        facts = i.moment.facts;
        plan = i.moment.plan;
        text = i.text;
        fault = i.fault;
        place = i.place;
        past.clear();
        return true;
    }
}
