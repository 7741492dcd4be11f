import com.sun.source.tree.CompilationUnitTree;
import com.sun.source.util.JavacTask;
import com.sun.source.util.Trees;
import java.io.IOException;
import java.net.URI;
import java.nio.file.Files;
import java.nio.file.Path;
import java.util.List;
import java.util.Set;
import java.util.TreeSet;
import javax.tools.DiagnosticCollector;
import javax.tools.JavaCompiler;
import javax.tools.JavaFileObject;
import javax.tools.SimpleJavaFileObject;
import javax.tools.ToolProvider;

/**
 * The rules of LANGUAGE.md, held against the class as the compiler reads it. Each rule is first tried on a few lines that
 * break it, so that a rule which finds nothing is known to look.
 */
public final class RulesTest extends Checks {
    /* Lines that stand in a small class of that form, and the rule that they break. */
    private static final String[][] BREACHES = {
        {"1", "int seen() { return 1; }"},
        {"1", "public int told(int what) { return what; } private int told() { return 1; }"},
        {"1", "public static final class Open { }"},
        {"2", "final class Inner { }"},
        {"2", "private int f() { class Local { } return 1; }"},
        {"2", "interface Way { int go(); } private int f() { Way w = () -> 1; return w == null ? 0 : 1; }"},
        {"2", "interface Way { int go(); } private int f() { Way w = new Way() { public int go() { return 1; } };"
                + " return w == null ? 0 : 1; }"},
        {"3", "private Object o = null;"},
        {"3", "private int[][][] cube = null;"},
        {"3", "private java.util.HashMap<Integer, Integer> map = null;"},
        {"4", "private int f(String s) { return s.hashCode(); }"},
        {"4", "private int f(int a) { return Math.addExact(a, 1); }"},
        {"4", "private long f() { return System.nanoTime(); }"},
        {"5", "private static int shared = 1;"},
        {"5", "private static final int[] ROW = new int[4];"},
        {"5", "private static final int ONE; static { ONE = 1; }"},
        {"6", "private int f() { throw new IllegalStateException(); }"},
        {"6", "private int f() { try { return 1; } finally { return 2; } }"},
        {"6", "private int f() { assert true; return 1; }"},
        {"6", "private int f() { synchronized (this) { return 1; } }"},
        {"6", "private boolean f(String a, String b) { return a == b; }"},
        {"6", "private record Own(int a) { public int hashCode() { return a; } }"},
        {"6", "private static class A { } private static final class B extends A { }"
                + " private B f(A a) { return (B) a; }"},
        {"7", "private int f(int a) { return 7 / a; }"},
        {"7", "private int f(int a) { return a % 0; }"},
        {"7", "private int[] row = new int[4]; private int f(int a) { return row[a]; }"},
        {"7", "private int[] row = new int[4]; private int f(int a) { if (a >= 0) { return row[a]; } return 0; }"},
        {"7", "private int[] row = new int[4]; private int f(int a) { return a < 4 ? row[a] : 0; }"},
        {"8", "private static int f(int a) { return a < 1 ? 0 : f(a - 1); }"},
        {"8", "private static int f(int a) { return g(a); } private static int g(int a) { return f(a); }"},
        {"9", "private int f(int a) { while (a > 0) { a--; } return a; }"},
        {"9", "private int f() { for (int i = 0; ; i++) { if (i > 3) { return i; } } }"},
        {"9", "private int f(int n) { for (int i = 0; i < n; i++) { i = 0; } return n; }"},
        {"9", "private int f(int n) { for (int i = 0; i < n; i--) { n--; } return n; }"},
        {"9", "private int f(int n) { for (int i = 0; i < n; i++) { n++; } return n; }"},
        {"10", "private String f(String a) { return a + 1; }"},
        {"11", "private int f(int a, int b, int c, int d, int e, int g, int h, int i) { return a; }"},
        {"11", "private int f() { return f1(); } private int f1() { return f2(); } private int f2() { return f3(); }"
                + "private int f3() { return f4(); } private int f4() { return f5(); } private int f5() { return f6(); }"
                + "private int f6() { return f7(); } private int f7() { return f8(); } private int f8() { return 1; }"},
        {"11", "private int f() { " + "\n".repeat(61) + " return 1; }"},
        {"11", "private int" + fields(21) + ";"},
        {"12", "private int[] f() { return new int[3]; }"},
        {"12", "private static final class Own { } private Own f() { return new Own(); }"},
    };

    /* Lines of the same form that keep all rules, so that a rule does not cry at everything. */
    private static final String[] SOUND = {
        "private final int[] row = new int[4]; private int f(int a) { return a >= 0 && a < 4 ? row[a] : 0; }",
        "private final int[] row = new int[4]; private int f(int a) { return a >= 0 && a < row.length ? row[a] : 0; }",
        "private final int[] row = new int[4]; private int f() { int n = 0; for (int i = 0; i < 4; i++) { n += row[i]; }"
                + " return n; }",
        "private static final int TWO = 2; private int f(int a) { return Math.max(a / TWO, 1); }",
    };

    public static void main(String[] args) throws IOException {
        for (String[] breach : BREACHES) {
            at = "rule " + breach[0] + " tried on: " + breach[1].strip();
            Set<String> found = new TreeSet<>();
            faultsOf(small(breach[1])).forEach(fault -> found.add(fault.split(":")[0]));
            due("the rule finds it", found.contains(breach[0]) ? 1 : 0, 1);
        }
        for (String sound : SOUND) {
            at = "rules tried on: " + sound;
            due("what is found", String.join("; ", faultsOf(small(sound))), "");
        }
        at = "MergedOutline";
        String source = Files.readString(Path.of(args.length > 0 ? args[0] : "src/main/java/MergedOutline.java"));
        for (String fault : faultsOf(source)) {
            due("a rule", fault, "");
        }
        due("signs beyond 127", source.chars().filter(c -> c > 127).count(), 0);
        end("RulesTest");
    }

    private static String small(String lines) {
        return "public final class MergedOutline { public MergedOutline() { }\n" + lines + "\n}";
    }

    private static String fields(int many) {
        StringBuilder all = new StringBuilder(" v0 = 0");
        for (int i = 1; i < many; i++) {
            all.append(", v").append(i).append(" = 0");
        }
        return all.toString();
    }

    private static List<String> faultsOf(String source) throws IOException {
        JavaCompiler compiler = ToolProvider.getSystemJavaCompiler();
        DiagnosticCollector<JavaFileObject> said = new DiagnosticCollector<>();
        JavaFileObject file = new SimpleJavaFileObject(URI.create("string:///MergedOutline.java"),
                JavaFileObject.Kind.SOURCE) {
            @Override
            public CharSequence getCharContent(boolean ignoreEncodingErrors) {
                return source;
            }
        };
        JavacTask task = (JavacTask) compiler.getTask(null, null, said, List.of("-proc:none"), null, List.of(file));
        CompilationUnitTree unit = task.parse().iterator().next();
        task.analyze();
        due("what the compiler refuses", said.getDiagnostics().stream()
                .filter(word -> word.getKind() == javax.tools.Diagnostic.Kind.ERROR).toList().toString(), "[]");
        Rules rules = new Rules(unit, Trees.instance(task));
        rules.scan(unit, null);
        rules.judgeCalls();
        return rules.faults;
    }
}
