import java.io.File;
import java.io.PrintWriter;
import java.io.StringWriter;
import java.util.ArrayList;
import java.util.List;
import java.util.Map;
import java.util.Set;
import java.util.TreeMap;
import java.util.TreeSet;
import java.util.regex.Matcher;
import java.util.regex.Pattern;
import java.util.spi.ToolProvider;

/** What the compiled class calls: nothing of the library but what LANGUAGE.md lists, and not too deep. */
public final class CallsTest {
    /** "Calls that are no recursion go at most eight deep", the call of the face and those of the library counted. */
    private static final int DEEPEST = 8;

    private static final Pattern METHOD = Pattern.compile("^  \\S.*?([\\w$]+)\\(.*\\).*;$");
    private static final Pattern CALL = Pattern.compile("// (?:Interface)?Method ([^:]+):");

    /** Of LANGUAGE.md's list, what the class has a use for; Object's constructor is called by each constructor. */
    private static final Set<String> LIBRARY = Set.of(
        "java/lang/Object.<init>", "java/lang/Integer.bitCount", "java/lang/Math.max", "java/lang/Math.min",
        "java/lang/String.length", "java/lang/String.charAt", "java/lang/System.arraycopy", "java/util/Arrays.fill",
        "java/util/NoSuchElementException.<init>");

    private static int wrong = 0;
    private final Map<String, Set<String>> calls = new TreeMap<>();
    private final Map<String, String> above = new TreeMap<>();

    private CallsTest() {
    }

    public static void main(String[] args) throws Exception {
        CallsTest test = new CallsTest();
        test.read(JoinOrders.class);
        for (Class<?> inner : JoinOrders.class.getDeclaredClasses()) {
            test.read(inner);
        }
        test.libraryAsListed();
        test.notTooDeep();
        System.out.println(wrong == 0 ? test.calls.size() + " methods call what they may" : wrong + " faults of calls");
        if (wrong != 0) {
            System.exit(1);
        }
    }

    private static void complain(String what) {
        wrong++;
        System.out.println("not so: " + what);
    }

    private void read(Class<?> c) throws Exception {
        String file = new File(JoinOrders.class.getProtectionDomain().getCodeSource().getLocation().toURI()).getPath();
        StringWriter told = new StringWriter();
        PrintWriter out = new PrintWriter(told);
        ToolProvider.findFirst("javap").orElseThrow().run(out, out, "-c", "-p", "-cp", file, c.getName());
        above.put(c.getName(), c.getSuperclass().getName());
        String method = "";
        for (String line : told.toString().split("\n")) {
            Matcher named = METHOD.matcher(line);
            if (named.find()) {
                String name = named.group(1);
                method = c.getName() + "." + (name.equals(c.getName()) ? "<init>" : name);
                calls.computeIfAbsent(method, m -> new TreeSet<>());
            }
            Matcher call = CALL.matcher(line);
            if (call.find()) {
                String callee = call.group(1).replace("\"", "");
                calls.get(method).add(callee.contains(".") ? callee : c.getName() + "." + callee);
            }
            if (line.contains("invokedynamic") || line.contains("checkcast")) {
                complain(method + " has " + line.trim());
            }
        }
    }

    private void libraryAsListed() {
        calls.forEach((method, callees) -> callees.forEach(callee -> {
            if (!callee.startsWith("JoinOrders") && !LIBRARY.contains(callee)) {
                complain(method + " calls " + callee);
            }
        }));
    }

    private void notTooDeep() {
        boolean any = false;
        for (String method : calls.keySet()) {
            if (method.startsWith("JoinOrders.")) {
                any = true;
                List<String> deepest = deepest(method, List.of());
                if (deepest.size() > DEEPEST) {
                    complain(deepest.size() + " deep: " + deepest);
                }
            }
        }
        if (!any) {
            complain("the class has methods");
        }
    }

    /** The longest chain of calls from a method on, in which none stands twice. */
    private List<String> deepest(String method, List<String> ahead) {
        List<String> open = new ArrayList<>(ahead);
        open.add(method);
        List<String> found = open;
        for (String callee : answering(method)) {
            if (!open.contains(callee)) {
                List<String> chain = deepest(callee, open);
                found = chain.size() > found.size() ? chain : found;
            }
        }
        return found;
    }

    /** What a method calls, and what may stand in for it in a class below. */
    private Set<String> answering(String method) {
        Set<String> all = new TreeSet<>();
        for (String callee : calls.getOrDefault(method, Set.of())) {
            all.add(callee);
            int dot = callee.lastIndexOf('.');
            above.forEach((below, its) -> {
                if (its.equals(callee.substring(0, dot)) && calls.containsKey(below + callee.substring(dot))) {
                    all.add(below + callee.substring(dot));
                }
            });
        }
        return all;
    }
}
