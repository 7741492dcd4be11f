import java.io.IOException;
import java.lang.reflect.Method;
import java.nio.file.DirectoryStream;
import java.nio.file.Files;
import java.nio.file.Path;
import java.util.Set;
import java.util.TreeSet;
import java.util.regex.Matcher;
import java.util.regex.Pattern;

/** EDGES.md keeps its word: its rows quote the document, and name each test of an edge. */
public final class EdgeListTest extends Checks {
    public static void main(String[] args) throws IOException, ClassNotFoundException {
        at = "EDGES.md";
        Set<String> edges = new TreeSet<>();
        Set<String> known = new TreeSet<>();
        try (DirectoryStream<Path> files = Files.newDirectoryStream(Path.of("src/test/java"), "*Test.java")) {
            for (Path file : files) {
                addTests(Class.forName(file.getFileName().toString().replace(".java", "")), edges, known);
            }
        }
        Set<String> named = namedInRows(known);
        for (String edge : edges) {
            due(edge + " has a row", named.contains(edge) ? 1 : 0, 1);
        }
        due("edges were found", edges.isEmpty() ? 0 : 1, 1);
        end("EdgeListTest");
    }

    private static void addTests(Class<?> tests, Set<String> edges, Set<String> known) {
        for (Method method : tests.getDeclaredMethods()) {
            known.add(tests.getName() + "." + method.getName());
        }
        if (tests.getName().endsWith("EdgeTest")) {
            edgesOf(tests).forEach(edge -> edges.add(tests.getName() + "." + edge.getName()));
        }
    }

    private static Set<String> namedInRows(Set<String> known) throws IOException {
        String document = oneLine(Files.readString(Path.of("../shared/DOC.md")));
        Set<String> named = new TreeSet<>();
        Matcher row = Pattern.compile("(?m)^- \"(.+)\": ([\\w., ]+)$").matcher(Files.readString(Path.of("EDGES.md")));
        while (row.find()) {
            due("'" + row.group(1) + "' stands in the document", document.contains(row.group(1)) ? 1 : 0, 1);
            for (String test : row.group(2).split(", ")) {
                due(test + " is there", known.contains(test) ? 1 : 0, 1);
                named.add(test);
            }
        }
        return named;
    }

    private static String oneLine(String text) {
        return text.replaceAll("\\s+", " ");
    }
}
