import java.lang.management.ManagementFactory;
import java.lang.reflect.Constructor;
import java.lang.reflect.Field;
import java.lang.reflect.Method;
import java.lang.reflect.Modifier;
import java.nio.file.Files;
import java.nio.file.Path;
import java.util.Arrays;
import java.util.List;
import java.util.TreeSet;
import java.util.stream.Collectors;

/** The face of the class, what LANGUAGE.md says of its form, and how much room its calls take. */
public final class FaceTest {
    private static final List<String> FACE = List.of(
        "int add(int)", "boolean again(int)", "long best(int,boolean,int)", "boolean by(int,int)", "int choose()",
        "boolean connected(int)", "long cost()", "int count(int)", "int cut(int)", "int edge(int,int)",
        "int fault(boolean)", "long greedy(int)", "boolean image(int)", "boolean joined(int,int)", "boolean limit(int)",
        "int link(int,int,int)", "long move(int)", "long needed(boolean)", "long node(int,int)", "int pair(int,boolean)",
        "int plan()", "int query()", "boolean rows(int,int)", "long size(int,boolean)", "int step()", "int steps()",
        "int told(int)", "int type(long)", "int undo()", "long would(boolean,int,int)");
    private static int wrong = 0;

    private FaceTest() {
    }

    public static void main(String[] args) throws Exception {
        face();
        forms(JoinOrders.class);
        for (Class<?> inner : JoinOrders.class.getDeclaredClasses()) {
            forms(inner);
        }
        words(Files.readString(Path.of("src/main/java/JoinOrders.java")));
        room();
        System.out.println(wrong == 0 ? "the face is as told" : wrong + " faults of form");
        if (wrong != 0) {
            System.exit(1);
        }
    }

    private static void due(String what, boolean holds) {
        if (!holds) {
            wrong++;
            System.out.println("not so: " + what);
        }
    }

    private static void face() throws Exception {
        Class<?> c = JoinOrders.class;
        due("public and final", Modifier.isPublic(c.getModifiers()) && Modifier.isFinal(c.getModifiers()));
        TreeSet<String> told = new TreeSet<>();
        for (Method m : c.getDeclaredMethods()) {
            if (!Modifier.isPrivate(m.getModifiers())) {
                due(m + " is public", Modifier.isPublic(m.getModifiers()));
                String types = Arrays.stream(m.getParameterTypes()).map(Class::getName).collect(Collectors.joining(","));
                told.add(m.getReturnType().getName() + " " + m.getName() + "(" + types + ")");
            }
        }
        due("the methods are " + told, told.equals(new TreeSet<>(FACE)));
        Constructor<?>[] made = c.getDeclaredConstructors();
        due("one public constructor", made.length == 1 && Modifier.isPublic(made[0].getModifiers()));
        for (Field f : c.getDeclaredFields()) {
            due(f + " is private", Modifier.isPrivate(f.getModifiers()) || f.getName().equals("NONE"));
            due(f + " is final if it is static", !Modifier.isStatic(f.getModifiers()) || Modifier.isFinal(f.getModifiers()));
        }
        due("edge throws NoSuchElementException", c.getMethod("edge", int.class, int.class).getExceptionTypes().length == 1);
        due("node throws NoSuchElementException", c.getMethod("node", int.class, int.class).getExceptionTypes().length == 1);
        due("some twelve classes", c.getDeclaredClasses().length <= 12);
    }

    private static void forms(Class<?> c) {
        TreeSet<String> open = new TreeSet<>();
        FACE.forEach(told -> open.add(told.substring(told.indexOf(' ') + 1, told.indexOf('('))));
        long fields = Arrays.stream(c.getDeclaredFields()).filter(f -> !Modifier.isStatic(f.getModifiers())).count();
        due(c + " has some twenty fields", fields <= 20);
        for (Method m : c.getDeclaredMethods()) {
            due(m + " takes seven at most", m.getParameterCount() <= 7);
            due(m + " bears a name of its own", c == JoinOrders.class && Modifier.isPublic(m.getModifiers()) || !open.contains(m.getName()));
        }
        due(c + " is static", c == JoinOrders.class || Modifier.isStatic(c.getModifiers()));
    }

    private static void words(String source) {
        for (String word : List.of("package ", "catch", "finally", "synchronized", "assert", "->", "::", "Exact", "System.out",
            "double", "float", "Object", "@", "instanceof", "String.", "Random", "currentTimeMillis", "nanoTime")) {
            due("without " + word, !source.contains(word));
        }
        due("ASCII alone", source.chars().allMatch(sign -> sign < 127));
    }

    /** 512 of the dearest calls make nothing that stays: rows are made once, in the constructor. */
    private static void room() {
        var threads = (com.sun.management.ThreadMXBean) ManagementFactory.getThreadMXBean();
        JoinOrders x = new JoinOrders();
        for (int r = 0; r < 8; r++) {
            x.add(10 + r);
        }
        for (int e = 0; e < 16; e++) {
            x.link(1 << e % 8, 1 << (e * 3 + 1) % 8, 2 + e);
        }
        calls(x);
        long ahead = threads.getCurrentThreadAllocatedBytes();
        calls(x);
        long taken = threads.getCurrentThreadAllocatedBytes() - ahead;
        due("calls make nothing new (" + taken + " bytes)", taken < 20000);
        ahead = threads.getCurrentThreadAllocatedBytes();
        JoinOrders other = new JoinOrders();
        taken = threads.getCurrentThreadAllocatedBytes() - ahead;
        due("a new object is small (" + taken + " bytes)", taken < 100000 && other.count(0) == 0);
    }

    private static void calls(JoinOrders x) {
        for (int i = 0; i < 512 / 16; i++) {
            x.type(0x2828282828282828L);
            x.plan();
            x.rows(0, 11 + i);
            x.limit(i);
            x.choose();
            x.step();
            x.undo();
            x.count(4);
            x.best(255, i % 2 == 0, 0);
            x.greedy(0);
            x.needed(true);
            x.steps();
            x.would(true, 0, 5);
            x.image(i % 3);
            x.again(i % 3);
            x.told(0);
        }
    }
}
