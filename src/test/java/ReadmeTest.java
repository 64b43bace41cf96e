import java.io.IOException;
import java.net.URL;
import java.net.URLClassLoader;
import java.nio.file.Files;
import java.nio.file.Path;
import java.util.ArrayList;
import java.util.List;
import java.util.TreeSet;
import java.util.regex.Matcher;
import java.util.regex.Pattern;
import java.util.stream.Stream;
import javax.tools.JavaCompiler;
import javax.tools.ToolProvider;

/** The pieces of code in README.md, compiled as one program, give the answers that it tells. */
public final class ReadmeTest {
    private static final Due DUE = new Due("ReadmeTest");
    /** A call, perhaps with a name for its answer, and the answer behind it. */
    private static final Pattern CALL =
            Pattern.compile("(?:(\\w+ )(\\w+) = )?(x\\.\\w+\\(.*\\)); +// (-?\\d+): .*");
    private static final Pattern BLOCK = Pattern.compile("(?ms)^```java\n(.*?)^```$");

    private static int calls = 0;

    public static void main(String[] args) throws Exception {
        String text = Files.readString(Path.of("README.md"));
        testsAreNamed(text);
        List<String> blocks = new ArrayList<>();
        Matcher m = BLOCK.matcher(text);
        while (m.find()) {
            blocks.add(m.group(1));
        }
        everyMethodIsShown(String.join("", blocks));
        Path dir = Files.createTempDirectory("readme");
        try {
            run(dir, program(blocks));
        } finally {
            remove(dir);
        }
        DUE.is("calls with their answers are many", calls > 60 ? 1 : 0, 1);
        DUE.end();
    }

    /** Called by the program that README.md makes. */
    public static void due(String call, long got, long want) {
        calls++;
        DUE.is(call, got, want);
    }

    /** A block with a method stands in the class, all others follow on one another in main. */
    private static String program(List<String> blocks) {
        StringBuilder methods = new StringBuilder();
        StringBuilder main = new StringBuilder();
        for (String block : blocks) {
            if (block.startsWith("static ")) {
                methods.append(block);
                continue;
            }
            for (String line : block.split("\n")) {
                main.append(statement(line)).append('\n');
            }
        }
        return "public final class Readme {\n" + methods + "public static void run() {\n" + main
                + "}\n}\n";
    }

    private static String statement(String line) {
        Matcher m = CALL.matcher(line);
        if (!m.matches()) {
            boolean plain = line.isEmpty() || line.startsWith("write(") || line.contains(" = new ");
            DUE.is("an answer stands behind: " + line, plain ? 1 : 0, 1);
            return line;
        }
        String due = "ReadmeTest.due(\"" + m.group(3).replace("\"", "\\\"") + "\", ";
        if (m.group(2) == null) {
            return due + m.group(3) + ", " + m.group(4) + "L);";
        }
        return m.group(1) + m.group(2) + " = " + m.group(3) + "; " + due + m.group(2) + ", "
                + m.group(4) + "L);";
    }

    private static void run(Path dir, String program) throws Exception {
        Path file = dir.resolve("Readme.java");
        Files.writeString(file, program);
        JavaCompiler compiler = ToolProvider.getSystemJavaCompiler();
        int failed = compiler.run(null, null, null, "-proc:none", "-d", dir.toString(), "-cp",
                System.getProperty("java.class.path"), file.toString());
        DUE.is("the code compiles", failed, 0);
        if (failed != 0) {
            return;
        }
        URL[] at = {dir.toUri().toURL()};
        try (URLClassLoader loader = new URLClassLoader(at, ReadmeTest.class.getClassLoader())) {
            loader.loadClass("Readme").getMethod("run").invoke(null);
        }
    }

    private static void remove(Path dir) throws IOException {
        try (Stream<Path> files = Files.list(dir)) {
            for (Path file : files.toList()) {
                Files.delete(file);
            }
        }
        Files.delete(dir);
    }

    private static void everyMethodIsShown(String code) {
        for (var method : SoWhen.class.getMethods()) {
            if (method.getDeclaringClass() == SoWhen.class) {
                boolean shown = code.contains("x." + method.getName() + "(");
                DUE.is(method.getName() + " is shown", shown ? 1 : 0, 1);
            }
        }
    }

    /** The table names each test that there is, and none that there is not. */
    private static void testsAreNamed(String text) throws IOException {
        TreeSet<String> named = new TreeSet<>();
        Matcher m = Pattern.compile("`(\\w+Test)[` ]").matcher(text);
        while (m.find()) {
            named.add(m.group(1));
        }
        TreeSet<String> there = new TreeSet<>();
        try (Stream<Path> files = Files.list(Path.of("src/test/java"))) {
            files.map(f -> f.getFileName().toString()).filter(f -> f.endsWith("Test.java"))
                    .forEach(f -> there.add(f.replace(".java", "")));
        }
        DUE.is("tests named " + named + " of " + there, named.equals(there) ? 1 : 0, 1);
    }
}
