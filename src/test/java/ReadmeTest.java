import java.io.IOException;
import java.lang.reflect.InvocationTargetException;
import java.net.URL;
import java.net.URLClassLoader;
import java.nio.file.Files;
import java.nio.file.Path;
import java.util.ArrayList;
import java.util.List;
import java.util.regex.Matcher;
import java.util.regex.Pattern;
import javax.tools.JavaCompiler;
import javax.tools.ToolProvider;

/**
 * Makes one program of the Java examples of README.md, in their order, and runs it: each call has
 * to answer what stands behind it. -Dreadme= tells where the page is.
 *
 * A block that begins with "static" is a method; each line of another block is one statement. What
 * is due stands behind "// ": a number, true, false, or "throws" and the exception's name.
 */
public final class ReadmeTest {
    private static final Pattern DUE = Pattern.compile("(.*);\\s*// (-?\\d+|true|false|throws (\\w+))(?:[:,].*)?");
    private static final int FEWEST = 30;

    private final StringBuilder methods = new StringBuilder();
    private final StringBuilder statements = new StringBuilder();
    private final List<String> wrong = new ArrayList<>();
    private int calls = 0;

    private void readBlock(List<String> lines) {
        if (!lines.isEmpty() && lines.get(0).startsWith("static ")) {
            for (String line : lines) {
                methods.append(line).append('\n');
            }
            return;
        }
        for (String line : lines) {
            readStatement(line);
        }
    }

    private void readStatement(String line) {
        Matcher due = DUE.matcher(line);
        if (!due.matches()) {
            if (!line.isBlank() && !line.startsWith("EggThrow x = ")) {
                wrong.add("nothing is due behind: " + line);
            }
            statements.append(line).append('\n');
            return;
        }
        calls++;
        String call = due.group(1).trim();
        String name = "\"" + call.replace("\\", "\\\\").replace("\"", "\\\"") + "\"";
        String want = "\"" + due.group(2) + "\"";
        statements.append("try { due(").append(name).append(", String.valueOf(").append(call).append("), ");
        statements.append(want).append("); } catch (RuntimeException e) { due(").append(name);
        statements.append(", \"throws \" + e.getClass().getSimpleName(), ").append(want).append("); }\n");
    }

    private void read(List<String> page) {
        List<String> block = null;
        for (String line : page) {
            if (block == null) {
                block = line.equals("```java") ? new ArrayList<>() : null;
            } else if (line.equals("```")) {
                readBlock(block);
                block = null;
            } else {
                block.add(line);
            }
        }
        if (block != null) {
            wrong.add("a block has no end");
        }
        if (calls < FEWEST) {
            wrong.add("only " + calls + " calls were found");
        }
    }

    private String program() {
        return "public final class ReadmeExamples {\n"
            + "static int wrong = 0;\n"
            + "static void due(String call, String got, String want) {\n"
            + "    if (!got.equals(want)) {\n"
            + "        wrong++;\n"
            + "        System.out.println(\"README: \" + call + \" answered \" + got + \", due is \" + want);\n"
            + "    }\n"
            + "}\n"
            + methods
            + "public static int run() {\n" + statements + "return wrong;\n}\n}\n";
    }

    private void run(Path place) throws IOException, ReflectiveOperationException {
        Path source = place.resolve("ReadmeExamples.java");
        Files.writeString(source, program());
        JavaCompiler compiler = ToolProvider.getSystemJavaCompiler();
        if (compiler == null || compiler.run(null, null, null, "-d", place.toString(), "-cp",
                System.getProperty("java.class.path"), source.toString()) != 0) {
            wrong.add("the examples do not compile");
            return;
        }
        try (URLClassLoader loader = new URLClassLoader(new URL[] {place.toUri().toURL()})) {
            Object answered = loader.loadClass("ReadmeExamples").getMethod("run").invoke(null);
            if (!answered.equals(0)) {
                wrong.add(answered + " answers are not as the page says");
            }
        } catch (InvocationTargetException e) {
            wrong.add("threw " + e.getCause());
        }
    }

    private static void clear(Path place) throws IOException {
        try (java.nio.file.DirectoryStream<Path> files = Files.newDirectoryStream(place)) {
            for (Path file : files) {
                Files.delete(file);
            }
        }
        Files.delete(place);
    }

    public static void main(String[] args) throws IOException, ReflectiveOperationException {
        ReadmeTest test = new ReadmeTest();
        test.read(Files.readAllLines(Path.of(System.getProperty("readme", "README.md"))));
        Path place = Files.createTempDirectory("readme");
        test.run(place);
        clear(place);
        for (String line : test.wrong) {
            System.out.println("README: " + line);
        }
        if (!test.wrong.isEmpty()) {
            System.exit(1);
        }
    }
}
