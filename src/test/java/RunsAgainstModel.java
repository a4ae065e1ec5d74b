import java.util.ArrayList;
import java.util.List;
import java.util.NoSuchElementException;
import java.util.Random;

/** Long runs of calls, drawn from fixed seeds, on JoinOrders and on Model at once: each answer must be the same. */
public final class RunsAgainstModel {
    private static final int NONE = -1;
    private static final int CALLS = 512;
    private static final int[] ODD = {
        -1, -2, Integer.MIN_VALUE, Integer.MAX_VALUE, 0, 1, 8, 16, 255, 256, 257, 1 << 31 | 1, 512, -256, 1000000,
        1000001, 100000, 100001, 5000, 5001, 3, 4, 5, 12, 31, 32
    };

    private interface Call {
        long on();
    }

    private final Random random;
    private final int kind;
    private final JoinOrders real = new JoinOrders();
    private final Model model = new Model();
    private final List<String> log = new ArrayList<>();
    private int calls = 0;
    private int wrong = 0;

    private RunsAgainstModel(long seed) {
        random = new Random(seed);
        kind = random.nextInt(4);
    }

    public static void main(String[] args) {
        int runs = args.length > 0 ? Integer.parseInt(args[0]) : 120;
        long from = args.length > 1 ? Long.parseLong(args[1]) : 1;
        int failed = 0;
        for (long seed = from; seed < from + runs && failed < 3; seed++) {
            RunsAgainstModel run = new RunsAgainstModel(seed);
            run.go();
            if (run.wrong > 0) {
                failed++;
                System.out.println("seed " + seed + ":");
                run.log.subList(Math.max(0, run.log.size() - 30), run.log.size()).forEach(System.out::println);
            }
        }
        System.out.println(failed == 0 ? runs + " runs answer as the model does" : "runs do not answer as the model does");
        if (failed != 0) {
            System.exit(1);
        }
    }

    private static long answer(Call call) {
        try {
            return call.on();
        } catch (NoSuchElementException e) {
            return Long.MIN_VALUE;
        }
    }

    private long check(String name, Call one, Call other) {
        if (calls >= CALLS || wrong > 0) {
            return NONE;
        }
        calls++;
        long got = answer(one);
        long due = answer(other);
        log.add("  " + name + " = " + got + (got == due ? "" : ", due is " + due));
        if (got != due) {
            wrong++;
        }
        return due;
    }

    private static long b(boolean v) {
        return v ? 1 : 0;
    }

    private void go() {
        if (random.nextInt(5) > 0) {
            start();
        } else {
            texts(someQuery(), false);
        }
        while (calls < CALLS && wrong == 0) {
            int dice = random.nextInt(100);
            if (dice < 4) {
                change();
            } else if (dice < 12 || dice < 60 && model.cost() == NONE && relations() > 0) {
                planning();
            } else if (dice == 60) {
                texts();
            } else if (dice == 61) {
                keep();
            } else {
                ask();
            }
        }
    }

    private void start() {
        int many = random.nextInt(kind == 3 ? 10 : 8);
        for (int i = 0; i < many; i++) {
            addOne();
        }
        int edges = random.nextInt(2 * many + 1);
        for (int i = 0; i < edges; i++) {
            linkOne();
        }
    }

    /** Few different numbers make ties, great ones make caps. */
    private int someRows() {
        return switch (kind) {
            case 0 -> 10 * (1 + random.nextInt(2));
            case 1 -> 1000000 - random.nextInt(2);
            case 2 -> (int) Math.pow(10, random.nextInt(7));
            default -> 1 + random.nextInt(1000);
        };
    }

    private int someBy() {
        return switch (kind) {
            case 0 -> 1 + random.nextInt(3);
            case 1 -> 100000 - random.nextInt(3) * 40000;
            case 2 -> (int) Math.pow(10, random.nextInt(6));
            default -> 1 + random.nextInt(100);
        };
    }

    private int odd() {
        return ODD[random.nextInt(ODD.length)];
    }

    private boolean rarely() {
        return random.nextInt(12) == 0;
    }

    private int relations() {
        return model.count(0);
    }

    private int someRelation() {
        return rarely() || relations() == 0 ? odd() : random.nextInt(relations());
    }

    private int someEdge() {
        return rarely() || model.count(1) == 0 ? odd() : random.nextInt(model.count(1));
    }

    private int someSet() {
        if (rarely()) {
            return odd();
        }
        return random.nextInt(3) == 0 ? (1 << relations()) - 1 : random.nextInt(1 << relations());
    }

    private void addOne() {
        int rows = rarely() ? odd() : someRows();
        check("add(" + rows + ")", () -> real.add(rows), () -> model.add(rows));
    }

    private void linkOne() {
        int left = someSet();
        int right = someSet() & ~(rarely() ? 0 : left);
        if (random.nextInt(3) > 0 && relations() > 1) {
            left = 1 << random.nextInt(relations());
            right = 1 << random.nextInt(relations());
        }
        int by = rarely() ? odd() : someBy();
        int l = left;
        int r = right;
        check("link(" + l + ", " + r + ", " + by + ")", () -> real.link(l, r, by), () -> model.link(l, r, by));
    }

    private void change() {
        int dice = random.nextInt(12);
        if (dice < 3) {
            addOne();
        } else if (dice < 6) {
            linkOne();
        } else if (dice < 7) {
            int e = someEdge();
            check("cut(" + e + ")", () -> real.cut(e), () -> model.cut(e));
        } else if (dice < 9) {
            int r = someRelation();
            int v = rarely() ? odd() : someRows();
            check("rows(" + r + ", " + v + ")", () -> b(real.rows(r, v)), () -> b(model.rows(r, v)));
        } else if (dice < 10) {
            int e = someEdge();
            int v = rarely() ? odd() : someBy();
            check("by(" + e + ", " + v + ")", () -> b(real.by(e, v)), () -> b(model.by(e, v)));
        } else {
            int v = rarely() ? odd() : random.nextInt(3) == 0 ? model.count(4) - random.nextInt(2) : random.nextInt(40);
            check("limit(" + v + ")", () -> b(real.limit(v)), () -> b(model.limit(v)));
        }
    }

    private void planning() {
        int dice = random.nextInt(24);
        if (dice < 5) {
            check("choose()", real::choose, model::choose);
        } else if (dice < 12) {
            check("step()", real::step, model::step);
        } else if (dice < 15) {
            check("undo()", real::undo, model::undo);
        } else if (dice < 16) {
            texts(somePlan(), true);
        } else {
            texts(randomPlan(), true);
        }
    }

    private void texts() {
        if (random.nextInt(6) == 0) {
            long eight = random.nextLong();
            check("type(" + eight + ")", () -> real.type(eight), () -> model.type(eight));
        } else if (random.nextInt(6) == 0) {
            texts(somePlan(), random.nextInt(4) > 0);
        } else {
            texts(someQuery(), false);
        }
    }

    private void texts(String text, boolean asPlan) {
        String told = spoilt(text);
        for (int at = 0; at < told.length(); at += 8) {
            long eight = 0;
            for (int i = 0; i < 8; i++) {
                eight = eight << 8 | (at + i < told.length() ? told.charAt(at + i) : 0);
            }
            long e = eight;
            check("type(" + e + ")", () -> real.type(e), () -> model.type(e));
        }
        if (random.nextInt(30) == 0) {
            return;
        }
        if (asPlan) {
            check("plan() of " + told, real::plan, model::plan);
        } else {
            check("query() of " + told, real::query, model::query);
        }
        check("fault(false)", () -> real.fault(false), () -> model.fault(false));
        check("fault(true)", () -> real.fault(true), () -> model.fault(true));
    }

    /** Mostly the text as it is; else with a byte or some taken away, put in or put in place of others. */
    private String spoilt(String text) {
        StringBuilder told = new StringBuilder(text);
        while (random.nextInt(6) == 0) {
            int at = random.nextInt(told.length() + 1);
            String signs = " \n;-()0123456789relationedgelimitbyA\t\u00e9#x";
            switch (random.nextInt(3)) {
                case 0 -> told.insert(at, signs.charAt(random.nextInt(signs.length())));
                case 1 -> told.delete(at, Math.min(told.length(), at + 1 + random.nextInt(6)));
                default -> {
                    if (at < told.length()) {
                        told.setCharAt(at, signs.charAt(random.nextInt(signs.length())));
                    }
                }
            }
        }
        return told.toString();
    }

    private String blank() {
        return switch (random.nextInt(6)) {
            case 0 -> "\n";
            case 1 -> " ";
            case 2 -> "  ";
            default -> "";
        };
    }

    private String number(int v) {
        return random.nextInt(15) == 0 ? "00" + v : String.valueOf(v);
    }

    /** A query; unless it is a clean one, each of its numbers may be one that can not be. */
    private String someQuery() {
        boolean clean = random.nextBoolean();
        StringBuilder told = new StringBuilder();
        int relations = !clean && random.nextInt(8) == 0 ? 9 : random.nextInt(9);
        for (int r = 0; r < relations; r++) {
            int rows = !clean && rarely() ? odd() & 0xfffff : someRows();
            told.append("relation").append(blank()).append(number(rows)).append(blank()).append(';');
        }
        int edges = random.nextInt(6) == 0 ? clean ? 16 : 17 : random.nextInt(8);
        for (int e = 0; e < edges && relations > 1; e++) {
            told.append(someEdgeText(relations, clean));
        }
        while (random.nextInt(3) == 0) {
            told.append("limit ").append(!clean && rarely() ? odd() & 8191 : random.nextInt(30)).append(";\n");
        }
        return told.toString();
    }

    private String someEdgeText(int relations, boolean clean) {
        StringBuilder told = new StringBuilder("edge").append(blank());
        List<Integer> all = new ArrayList<>();
        for (int r = 0; r < relations; r++) {
            all.add(r);
        }
        java.util.Collections.shuffle(all, random);
        int used = Math.min(relations, random.nextInt(3) == 0 ? 2 + random.nextInt(3) : 2);
        int lefts = 1 + random.nextInt(used - 1);
        for (int i = 0; i < used; i++) {
            int r = !clean && rarely() ? random.nextInt(relations + 2) : all.get(i);
            told.append(i == lefts ? "-" + blank() : i > 0 ? " " : "").append(number(r));
        }
        int by = !clean && rarely() ? odd() & 0x1ffff : someBy();
        return told.append(blank()).append("by").append(blank()).append(by).append(';').toString();
    }

    /** A plan of relations that are there, each once. */
    private String randomPlan() {
        List<String> parts = new ArrayList<>();
        for (int r = 0; r < relations(); r++) {
            if (random.nextInt(8) > 0) {
                parts.add(number(r));
            }
        }
        if (parts.isEmpty()) {
            return "0";
        }
        while (parts.size() > 1) {
            String one = parts.remove(random.nextInt(parts.size()));
            String other = parts.remove(random.nextInt(parts.size()));
            parts.add("(" + blank() + one + " " + other + blank() + ")");
        }
        return parts.get(0);
    }

    /** A plan of any relations, or of an endless depth. */
    private String somePlan() {
        if (random.nextInt(20) == 0) {
            return "(".repeat(random.nextInt(500));
        }
        return anyPlan(random.nextInt(5));
    }

    private String anyPlan(int depth) {
        if (depth == 0 || random.nextInt(4) == 0) {
            return String.valueOf(random.nextInt(relations() + 1));
        }
        return "(" + anyPlan(depth - 1) + " " + anyPlan(depth - 1) + ")";
    }

    private void keep() {
        int k = random.nextInt(random.nextInt(8) == 0 ? 5 : 3) - (rarely() ? 1 : 0);
        if (random.nextBoolean()) {
            check("image(" + k + ")", () -> b(real.image(k)), () -> b(model.image(k)));
        } else {
            check("again(" + k + ")", () -> b(real.again(k)), () -> b(model.again(k)));
        }
    }

    private void ask() {
        boolean flag = random.nextBoolean();
        int what = rarely() ? odd() : random.nextInt(5);
        switch (random.nextInt(15)) {
            case 0 -> {
                int w = rarely() ? odd() : random.nextInt(12);
                check("count(" + w + ")", () -> real.count(w), () -> model.count(w));
            }
            case 1 -> {
                int e = someEdge();
                check("edge(" + e + ", " + what + ")", () -> real.edge(e, what), () -> model.edge(e, what));
            }
            case 2 -> {
                int s = someSet();
                check("size(" + s + ", " + flag + ")", () -> real.size(s, flag), () -> model.size(s, flag));
            }
            case 3 -> {
                int s = someSet();
                check("connected(" + s + ")", () -> b(real.connected(s)), () -> b(model.connected(s)));
            }
            case 4 -> {
                int s = someSet();
                int t = someSet() & ~(rarely() ? 0 : s);
                check("joined(" + s + ", " + t + ")", () -> b(real.joined(s, t)), () -> b(model.joined(s, t)));
            }
            case 5 -> {
                int k = rarely() ? odd() : random.nextInt(model.count(4) + 1);
                check("pair(" + k + ", " + flag + ")", () -> real.pair(k, flag), () -> model.pair(k, flag));
            }
            case 6 -> {
                int s = someSet();
                check("best(" + s + ", " + flag + ", " + what + ")", () -> real.best(s, flag, what), () -> model.best(s, flag, what));
            }
            case 7 -> check("greedy(" + what + ")", () -> real.greedy(what), () -> model.greedy(what));
            case 8, 9 -> {
                int k = rarely() ? odd() : random.nextInt(8);
                check("node(" + k + ", " + what + ")", () -> real.node(k, what), () -> model.node(k, what));
            }
            case 10 -> check("cost()", real::cost, model::cost);
            case 11 -> {
                int i = rarely() ? odd() : random.nextInt(30) - 1;
                check("told(" + i + ")", () -> real.told(i), () -> model.told(i));
            }
            case 12 -> {
                int k = rarely() ? odd() : random.nextInt(13) - 1;
                check("move(" + k + ")", () -> real.move(k), () -> model.move(k));
            }
            case 13 -> check("steps()", real::steps, model::steps);
            default -> whatWouldBe(flag);
        }
    }

    private void whatWouldBe(boolean flag) {
        // The model needs its time for this with many relations.
        if (relations() > 6 && random.nextInt(4) > 0) {
            return;
        }
        if (random.nextInt(3) == 0) {
            check("needed(" + flag + ")", () -> real.needed(flag), () -> model.needed(flag));
            return;
        }
        int k = flag ? someEdge() : someRelation();
        int v = rarely() ? odd() : flag ? someBy() : someRows();
        check("would(" + flag + ", " + k + ", " + v + ")", () -> real.would(flag, k, v), () -> model.would(flag, k, v));
    }
}
