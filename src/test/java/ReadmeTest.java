import java.io.IOException;
import java.lang.reflect.Method;
import java.lang.reflect.Modifier;
import java.net.URL;
import java.net.URLClassLoader;
import java.nio.file.Files;
import java.nio.file.Path;
import java.util.ArrayList;
import java.util.Comparator;
import java.util.List;
import java.util.regex.Matcher;
import java.util.regex.Pattern;
import java.util.stream.Stream;
import javax.tools.ToolProvider;

/** What README.md shows as an example of use: it compiles, answers as README.md says, and shows each call. */
public final class ReadmeTest {
    private static final Path README = Path.of("README.md");
    private static final Pattern BLOCK = Pattern.compile("(?s)```java\n(.*?)```");
    private static final Pattern CALL = Pattern.compile("((?:x\\.|tell\\().*\\));\\s*// (-?\\d+)(:.*)?");

    private ReadmeTest() {}

    public static void main(String[] args) throws Exception {
        String readme = Files.readString(README);
        List<String> functions = new ArrayList<>();
        List<String> calls = new ArrayList<>();
        Matcher block = BLOCK.matcher(readme);
        while (block.find()) {
            boolean isFunction = block.group(1).startsWith("static ");
            (isFunction ? functions : calls).addAll(block.group(1).lines().toList());
        }
        run(program(functions, calls));
        eachCallIsShown(calls);
        Check.close();
    }

    /** For the program that is made of README.md, whose class is loaded apart from the tests. */
    public static void due(String call, long got, long want) {
        Check.due(call, got, want);
    }

    private static String program(List<String> functions, List<String> calls) {
        StringBuilder b = new StringBuilder("public final class Shown {\n");
        functions.forEach(line -> b.append(line).append('\n'));
        b.append("public static void run() {\n");
        calls.forEach(line -> b.append(asTest(line)).append('\n'));
        return b.append("}\n}\n").toString();
    }

    /** A call with its answer behind it becomes a test; any other line must be the one that makes the object. */
    private static String asTest(String line) {
        Matcher call = CALL.matcher(line);
        if (call.matches()) {
            String quoted = call.group(1).replace("\\", "\\\\").replace("\"", "\\\"");
            return "ReadmeTest.due(\"README.md: " + quoted + "\", " + call.group(1) + ", " + call.group(2) + "L);";
        }
        boolean makes = line.equals("FrozenTrees x = new FrozenTrees();");
        Check.due("README.md, a line without its answer: " + line, makes ? 1 : 0, 1);
        return line;
    }

    private static void run(String program) throws Exception {
        Path work = Files.createTempDirectory("readme");
        try {
            Path source = work.resolve("Shown.java");
            Files.writeString(source, program);
            String path = System.getProperty("java.class.path");
            int refused = ToolProvider.getSystemJavaCompiler()
                .run(null, null, null, "-encoding", "UTF-8", "-cp", path, "-d", work.toString(), source.toString());
            Check.due("README.md does not compile", refused, 0);
            if (refused == 0) {
                call(work);
            }
        } finally {
            delete(work);
        }
    }

    private static void call(Path classes) throws Exception {
        try (URLClassLoader loader = new URLClassLoader(new URL[] {classes.toUri().toURL()})) {
            loader.loadClass("Shown").getMethod("run").invoke(null);
        }
    }

    private static void delete(Path work) throws IOException {
        try (Stream<Path> all = Files.walk(work)) {
            for (Path path : all.sorted(Comparator.reverseOrder()).toList()) {
                Files.delete(path);
            }
        }
    }

    private static void eachCallIsShown(List<String> calls) {
        for (Method method : FrozenTrees.class.getDeclaredMethods()) {
            if (Modifier.isPublic(method.getModifiers())) {
                String start = "x." + method.getName() + "(";
                boolean shown = calls.stream().anyMatch(line -> line.startsWith(start));
                Check.due("README.md shows " + method.getName(), shown ? 1 : 0, 1);
            }
        }
    }
}
