import java.io.IOException;
import java.lang.reflect.InvocationTargetException;
import java.net.MalformedURLException;
import java.net.URL;
import java.net.URLClassLoader;
import java.nio.file.DirectoryStream;
import java.nio.file.Files;
import java.nio.file.Path;
import java.util.ArrayList;
import java.util.Arrays;
import java.util.Comparator;
import java.util.List;
import java.util.regex.Matcher;
import java.util.regex.Pattern;
import java.util.stream.Stream;
import javax.tools.JavaCompiler;
import javax.tools.ToolProvider;

/** README.md keeps its word: its examples answer what it says, and it leaves out nothing of the face and no test. */
public final class ReadmeTest extends Checks {
    private static final Pattern BLOCK = Pattern.compile("(?s)```java\n(.*?)```");
    private static final Pattern CALL =
            Pattern.compile("(?:int (\\w+) = (x\\..*?)|(x\\.\\w+\\([^()]*\\)));\\s*// (-?\\d+)(?::.*)?");
    private static final Pattern OTHER = Pattern.compile("MergedOutline \\w = new MergedOutline\\(\\);|for \\(.*\\}");
    private static int calls = 0;

    public static void main(String[] args) throws IOException, ReflectiveOperationException {
        at = "README.md";
        String page = Files.readString(Path.of("README.md"));
        List<String> blocks = new ArrayList<>();
        Matcher block = BLOCK.matcher(page);
        while (block.find()) {
            blocks.add(block.group(1));
        }
        due("blocks of examples", blocks.size() > 0 ? 1 : 0, 1);
        namesAll(page, String.join("", blocks));
        tries(program(blocks));
        end("ReadmeTest");
    }

    // ---- nothing is left out

    private static void namesAll(String page, String examples) throws IOException {
        String document = Files.readString(Path.of("../shared/DOC.md"));
        Matcher method = Pattern.compile("(?m)^    public (?:int|long) (\\w+)\\((.*)\\);$").matcher(document);
        int methods = 0;
        while (method.find()) {
            methods++;
            String call = method.group(1) + "(" + method.group(2).replace("int ", "") + ")";
            due("a row of a table tells " + call, page.contains("\n| `" + call + "` |") ? 1 : 0, 1);
            due("an example has " + method.group(1), examples.contains("x." + method.group(1) + "(") ? 1 : 0, 1);
        }
        due("methods in the document", methods, MergedOutline.class.getDeclaredMethods().length - hiddenMethods());
        for (String constant : new String[] {"`NONE` | -1", "`BAD` | -2", "`NO` | -3", "`FULL` | -4"}) {
            due("a row of a table tells " + constant, page.contains("\n| " + constant + " |") ? 1 : 0, 1);
        }
        try (DirectoryStream<Path> files = Files.newDirectoryStream(Path.of("src/test/java"), "*Test.java")) {
            for (Path file : files) {
                String name = file.getFileName().toString().replace(".java", "");
                due("the page tells of " + name, page.contains("`" + name + "`") ? 1 : 0, 1);
            }
        }
        for (Class<?> inside : MergedOutline.class.getDeclaredClasses()) {
            due("the page tells of " + inside.getSimpleName(), page.contains("`" + inside.getSimpleName() + "`") ? 1 : 0, 1);
        }
    }

    private static long hiddenMethods() {
        return Arrays.stream(MergedOutline.class.getDeclaredMethods())
                .filter(method -> java.lang.reflect.Modifier.isPrivate(method.getModifiers())).count();
    }

    // ---- the examples are tried

    /** Each line of an example is Java of its own; one that has an answer behind it becomes a check of that. */
    private static String program(List<String> blocks) {
        StringBuilder program = new StringBuilder("public final class ReadmeExamples {\n");
        program.append("public static void main(String[] said) {\n");
        program.append("java.util.function.Consumer<String> say = word -> said[0] += word;\n");
        for (String block : blocks) {
            program.append("{\n");
            for (String line : block.split("\n")) {
                program.append(tried(line)).append('\n');
            }
            program.append("}\n");
        }
        return program.append("}\n}\n").toString();
    }

    private static String tried(String line) {
        Matcher call = CALL.matcher(line);
        if (!call.matches()) {
            due("an example without an answer: " + line, OTHER.matcher(line).matches() ? 1 : 0, 1);
            return line;
        }
        calls++;
        String name = call.group(1) == null ? "answer" + calls : call.group(1);
        String asked = call.group(1) == null ? call.group(3) : call.group(2);
        return "int " + name + " = (int) (" + asked + ");\nsay.accept(\"" + asked + "\\t\" + " + name
                + " + \"\\t" + call.group(4) + "\\n\");";
    }

    private static void tries(String program) throws IOException, ReflectiveOperationException {
        Path dir = Files.createTempDirectory("readme");
        try {
            Path file = dir.resolve("ReadmeExamples.java");
            Files.writeString(file, program);
            JavaCompiler compiler = ToolProvider.getSystemJavaCompiler();
            int refused = compiler.run(null, System.out, System.out, "-d", dir.toString(), "-cp",
                    System.getProperty("java.class.path"), file.toString());
            due("the compiler on the examples", refused, 0);
            if (refused == 0) {
                judges(ran(dir));
            }
        } finally {
            remove(dir);
        }
    }

    private static String ran(Path dir) throws MalformedURLException, IOException, ReflectiveOperationException {
        String[] said = {""};
        try (URLClassLoader loader = new URLClassLoader(new URL[] {dir.toUri().toURL()})) {
            loader.loadClass("ReadmeExamples").getMethod("main", String[].class).invoke(null, (Object) said);
        } catch (InvocationTargetException thrown) {
            due("the examples threw", thrown.getCause().toString(), "");
        }
        return said[0];
    }

    private static void judges(String said) {
        int answers = 0;
        for (String row : said.split("\n")) {
            String[] parts = row.split("\t");
            if (parts.length == 3) {
                answers++;
                due(parts[0], Long.parseLong(parts[1]), Long.parseLong(parts[2]));
            }
        }
        due("answers that came", answers, calls);
    }

    private static void remove(Path dir) throws IOException {
        try (Stream<Path> all = Files.walk(dir)) {
            for (Path path : all.sorted(Comparator.reverseOrder()).toList()) {
                Files.delete(path);
            }
        }
    }
}
