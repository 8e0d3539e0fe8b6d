import java.io.File;
import java.io.IOException;
import java.lang.reflect.Method;
import java.lang.reflect.Modifier;
import java.net.URL;
import java.net.URLClassLoader;
import java.nio.file.Files;
import java.nio.file.Path;
import java.util.ArrayList;
import java.util.Comparator;
import java.util.List;
import java.util.regex.Matcher;
import java.util.regex.Pattern;
import java.util.stream.Stream;
import javax.tools.JavaCompiler;
import javax.tools.ToolProvider;

/**
 * The code in README.md does what stands behind it; run from the project's folder. The code is made into
 * a class ReadmeCode: functions as they are, all other lines one behind the other in one function.
 */
public final class ReadmeTest {
    private static final Checks C = new Checks("ReadmeTest");
    private static final Pattern BLOCK = Pattern.compile("(?s)```java\n(.*?)```");
    private static final Pattern DUE = Pattern.compile("(\\w.*);\\s+// (throws \\w+|-?\\d+|true|false|\"[^\"]*\")(:.*)?");
    private static final Pattern PLAIN = Pattern.compile("\\w.*;");

    /** What the code in the file answered, from within: a call, its answer, what is due. */
    public static void due(String call, Object got, String due) {
        C.same(call, String.valueOf(got), due);
    }

    public static void main(String[] args) throws Exception {
        StringBuilder functions = new StringBuilder();
        StringBuilder lines = new StringBuilder();
        Matcher block = BLOCK.matcher(Files.readString(Path.of("README.md")));
        while (block.find()) {
            if (block.group(1).startsWith("static ")) {
                functions.append(block.group(1));
            } else {
                for (String line : block.group(1).split("\n")) {
                    lines.append(checked(line)).append('\n');
                }
            }
        }
        showsAllOf(functions + lines.toString());
        String code = "public final class ReadmeCode {\n" + functions + "public static void run() {\n" + lines + "}\n}\n";
        Path folder = Files.createTempDirectory("readme");
        try {
            runCode(folder, code);
        } finally {
            remove(folder);
        }
        C.finish();
    }

    /** A line whose answer is told becomes a check of it. */
    private static String checked(String line) {
        Matcher told = DUE.matcher(line);
        if (!told.matches()) {
            C.same("a line without an answer: " + line, PLAIN.matcher(line).matches(), true);
            return line;
        }
        String call = told.group(1);
        String name = "\"" + call.replace("\\", "\\\\").replace("\"", "\\\"") + "\"";
        String answer = told.group(2);
        if (answer.startsWith("throws ")) {
            String thrown = answer.substring("throws ".length());
            return "try { ReadmeTest.due(" + name + ", " + call + ", \"" + thrown + "\"); } catch (" + thrown
                + " e) { ReadmeTest.due(" + name + ", e.getClass().getSimpleName(), \"" + thrown + "\"); }";
        }
        return "ReadmeTest.due(" + name + ", " + call + ", " + (answer.startsWith("\"") ? answer : "\"" + answer + "\"") + ");";
    }

    private static void showsAllOf(String code) {
        for (Method m : OptimaWorks.class.getDeclaredMethods()) {
            if (Modifier.isPublic(m.getModifiers())) {
                C.same("README.md shows " + m.getName(), code.contains("x." + m.getName() + "("), true);
            }
        }
    }

    private static void runCode(Path folder, String code) throws Exception {
        Path source = folder.resolve("ReadmeCode.java");
        Files.writeString(source, code);
        JavaCompiler compiler = ToolProvider.getSystemJavaCompiler();
        String classes = System.getProperty("java.class.path");
        int failed = compiler.run(null, null, null, "-cp", classes, "-d", folder.toString(), source.toString());
        C.same("README.md's code compiles", failed == 0, true);
        if (failed == 0) {
            try (URLClassLoader loader = new URLClassLoader(new URL[] {folder.toUri().toURL()})) {
                loader.loadClass("ReadmeCode").getMethod("run").invoke(null);
            }
        }
    }

    private static void remove(Path folder) throws IOException {
        List<File> files = new ArrayList<>();
        try (Stream<Path> found = Files.walk(folder)) {
            found.sorted(Comparator.reverseOrder()).forEach(path -> files.add(path.toFile()));
        }
        for (File file : files) {
            file.delete();
        }
    }
}
