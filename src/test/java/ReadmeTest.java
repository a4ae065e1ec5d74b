import java.nio.file.Files;
import java.nio.file.Path;
import java.util.ArrayList;
import java.util.List;
import java.util.regex.Matcher;
import java.util.regex.Pattern;
import javax.tools.JavaCompiler;
import javax.tools.ToolProvider;

/** README.md's examples are compiled and run: each call must answer what stands behind its arrow. */
public final class ReadmeTest {
    private static final Pattern BLOCK = Pattern.compile("```java\n(.*?)```", Pattern.DOTALL);
    private static final Pattern ANSWERED = Pattern.compile("(x\\..*\\)); +// -> (-?\\d+|true|false)\\b.*");

    private ReadmeTest() {
    }

    public static void main(String[] args) throws Exception {
        StringBuilder methods = new StringBuilder();
        StringBuilder calls = new StringBuilder();
        int answers = 0;
        Matcher block = BLOCK.matcher(Files.readString(Path.of("README.md")));
        while (block.find()) {
            if (block.group(1).startsWith("static ")) {
                methods.append(block.group(1));
                continue;
            }
            calls.append("{\n");
            for (String line : block.group(1).split("\n")) {
                Matcher answered = ANSWERED.matcher(line);
                answers += answered.matches() ? 1 : 0;
                calls.append(answered.matches() ? judged(answered.group(1), answered.group(2)) : line).append('\n');
            }
            calls.append("}\n");
        }
        int wrong = answers == 0 ? 1 : run(methods.toString(), calls.toString());
        System.out.println(wrong == 0 ? answers + " answers are as README.md tells them" : "README.md tells it otherwise");
        if (wrong != 0) {
            System.exit(1);
        }
    }

    private static String judged(String call, String answer) {
        return "wrong += due(\"" + call + "\", String.valueOf(" + call + "), \"" + answer + "\");";
    }

    private static int run(String methods, String calls) throws Exception {
        String source = "public final class Examples {\n" + methods
            + "static int due(String call, String got, String want) {\n"
            + "  if (got.equals(want)) { return 0; }\n"
            + "  System.out.println(call + \" answers \" + got + \", README.md tells \" + want);\n"
            + "  return 1;\n}\n"
            + "public static int run() {\nint wrong = 0;\n" + calls + "return wrong;\n}\n}\n";
        Path place = Files.createTempDirectory("readme");
        Path file = place.resolve("Examples.java");
        try {
            Files.writeString(file, source);
            return compile(file, place) ? examples(place) : 1;
        } finally {
            for (Path each : List.of(file, place.resolve("Examples.class"), place)) {
                Files.deleteIfExists(each);
            }
        }
    }

    private static boolean compile(Path file, Path place) {
        JavaCompiler compiler = ToolProvider.getSystemJavaCompiler();
        List<String> words = new ArrayList<>(List.of("-cp", System.getProperty("java.class.path")));
        words.addAll(List.of("-d", place.toString(), file.toString()));
        return compiler.run(null, System.out, System.out, words.toArray(new String[0])) == 0;
    }

    private static int examples(Path place) throws Exception {
        try (var loader = new java.net.URLClassLoader(new java.net.URL[] {place.toUri().toURL()})) {
            return (int) loader.loadClass("Examples").getMethod("run").invoke(null);
        }
    }
}
