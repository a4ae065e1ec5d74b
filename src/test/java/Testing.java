import java.util.NoSuchElementException;

/** What the tests share: how answers are judged, how texts are typed, and objects to begin with. */
abstract class Testing {
    static final int NONE = JoinOrders.NONE;
    static final long CAP = 1000000000000000L;
    private static int promise = 0;
    private static String words = "";
    private static int sentences = 0;
    private static int wrong = 0;

    interface Call {
        long on();
    }

    // ---- how answers are judged

    static void promise(int number) {
        sentence(number, "");
    }

    /** What is judged from here on belongs to these words of the document. */
    static void sentence(int number, String itsWords) {
        promise = number;
        words = itsWords.isEmpty() ? "" : " (" + itsWords + ")";
        sentences++;
    }

    static void due(String what, long got, long want) {
        if (got != want) {
            complain(what + " answered " + got + ", due is " + want);
        }
    }

    static void due(String what, boolean got, boolean want) {
        due(what, got ? 1 : 0, want ? 1 : 0);
    }

    static void due(String what, String got, String want) {
        if (!got.equals(want)) {
            complain(what + " answered " + got + ", due is " + want);
        }
    }

    static void dueNoSuchElement(String what, Call call) {
        try {
            complain(what + " answered " + call.on() + ", due is NoSuchElementException");
        } catch (NoSuchElementException e) {
            if (e.getClass() != NoSuchElementException.class) {
                complain(what + " threw " + e.getClass());
            }
        }
    }

    private static void complain(String what) {
        wrong++;
        System.out.println("promise " + promise + words + ": " + what);
    }

    static void end() {
        System.out.println(wrong == 0 ? sentences + " parts hold" : wrong + " answers are not as due");
        if (wrong != 0) {
            System.exit(1);
        }
    }

    // ---- texts

    /** The first eight signs of a text from a place on, as type() takes them. */
    static long eightOf(String text, int at) {
        long eight = 0;
        for (int i = at; i < at + 8; i++) {
            eight = eight << 8 | (i < text.length() ? text.charAt(i) : 0);
        }
        return eight;
    }

    static void typed(JoinOrders x, String text) {
        for (int at = 0; at < text.length(); at += 8) {
            x.type(eightOf(text, at));
        }
    }

    static int queried(JoinOrders x, String text) {
        typed(x, text);
        return x.query();
    }

    static int planned(JoinOrders x, String text) {
        typed(x, text);
        return x.plan();
    }

    static String toldBy(JoinOrders x) {
        StringBuilder told = new StringBuilder();
        for (int i = 0; i < x.told(NONE); i++) {
            told.append((char) x.told(i));
        }
        return told.toString();
    }

    /** What query() of a text must answer on a new object, and its fault and place. */
    static void dueOfQuery(String text, int relations, int fault, int place) {
        JoinOrders x = new JoinOrders();
        due("query() of " + text, queried(x, text), relations);
        due("fault(false) of " + text, x.fault(false), fault);
        due("fault(true) of " + text, x.fault(true), place);
        due("count(10) behind " + text, x.count(10), 0);
    }

    static void sound(String text, int relations) {
        dueOfQuery(text, relations, 0, NONE);
    }

    static void faulty(String text, int fault, int place) {
        dueOfQuery(text, NONE, fault, place);
    }

    static void notPlanned(JoinOrders x, String text, int fault, int place) {
        due("plan() of " + text, planned(x, text), NONE);
        due("fault(false) of " + text, x.fault(false), fault);
        due("fault(true) of " + text, x.fault(true), place);
        due("count(10) behind " + text, x.count(10), 0);
    }

    // ---- objects to begin with

    static JoinOrders of(String text) {
        JoinOrders x = new JoinOrders();
        if (queried(x, text) < 0) {
            throw new IllegalStateException(text);
        }
        return x;
    }

    /** Relations with such rows, and no edges. */
    static JoinOrders ofRows(int... rows) {
        JoinOrders x = new JoinOrders();
        for (int each : rows) {
            x.add(each);
        }
        return x;
    }

    /** Sizes: {0 1} 100, {1 2} 200, {2 3} 300, {0 1 2} 1000, {1 2 3} 2000, all 10000. */
    static JoinOrders chain() {
        return of("relation 10;relation 20;relation 30;relation 40;edge 0-1 by 2;edge 1-2 by 3;edge 2-3 by 4;");
    }

    /** Sizes: {0 1} 100, {1 2} 50, {2 3} 100, {0 1 2} and {1 2 3} 500, all 5000: greedy is not the best. */
    static JoinOrders trap() {
        return of("relation 10;relation 10;relation 10;relation 10;edge 0-1 by 1;edge 1-2 by 2;edge 2-3 by 1;");
    }

    /** Eight relations, each joined with the next one. */
    static JoinOrders eight() {
        return of("relation 2;".repeat(8) + "edge0-1by1;edge1-2by1;edge2-3by1;edge3-4by1;edge4-5by1;edge5-6by1;edge6-7by1;");
    }
}
