import java.io.IOException;
import java.lang.reflect.Constructor;
import java.lang.reflect.Field;
import java.lang.reflect.Method;
import java.lang.reflect.Modifier;
import java.nio.file.Files;
import java.nio.file.Path;
import java.util.ArrayList;
import java.util.Arrays;
import java.util.List;
import java.util.Set;
import java.util.TreeSet;
import java.util.regex.Matcher;
import java.util.regex.Pattern;

/** The public face as the document tells it, and those rules of LANGUAGE.md that can be seen from outside. */
public final class FaceTest {
    private static final List<String> FACE = List.of("adds 5", "moves 4", "renames 3", "edits 3", "deletes 2", "forks 0",
            "prefers 1", "adopts 0", "has 2", "of 3", "walk 2", "size 2", "alike 2", "conflicts 2", "script 3",
            "matches 2", "told 1", "type 1", "clear 0", "does 0", "back 0", "refused 1", "digest 0");
    private static final List<String> CONSTANTS = List.of("NONE -1", "BAD -2", "NO -3", "FULL -4");
    private static final String[] FORBIDDEN = {"\\bthrow\\b", "\\bthrows\\b", "\\btry\\b", "\\bcatch\\b",
        "\\bsynchronized\\b", "\\bassert\\b", "->", "::", "\\bimport\\b", "\\bpackage\\b", "\\bprotected\\b",
        "\\bObject\\b", "Exact\\(", "\\bhashCode\\b", "\\btoString\\b", "\\bstatic \\{", "[^\\x00-\\x7f]"};
    private static int wrong = 0;

    public static void main(String[] args) throws IOException, IllegalAccessException {
        methods();
        constants();
        constructors();
        inside();
        source(Files.readString(Path.of(args.length > 0 ? args[0] : "src/main/java/MergedOutline.java")));
        System.exit(wrong == 0 ? 0 : 1);
    }

    private static void due(String what, Object got, Object want) {
        if (!got.equals(want)) {
            wrong++;
            System.out.println(what + ": " + got + ", due is " + want);
        }
    }

    private static void methods() {
        Set<String> visible = new TreeSet<>();
        Set<String> hidden = new TreeSet<>();
        for (Method method : MergedOutline.class.getDeclaredMethods()) {
            if (Modifier.isPrivate(method.getModifiers())) {
                hidden.add(method.getName());
                continue;
            }
            due(method + " is public alone", method.getModifiers(), Modifier.PUBLIC);
            visible.add(method.getName() + " " + method.getParameterCount());
            due(method + "'s answer", method.getReturnType(), method.getName().equals("digest") ? long.class : int.class);
            for (Class<?> parameter : method.getParameterTypes()) {
                due(method + "'s parameters", parameter, int.class);
            }
        }
        due("methods", visible, new TreeSet<>(FACE));
        for (String name : FACE) {
            due("a private method of that name: " + name, hidden.contains(name.split(" ")[0]), false);
        }
    }

    private static void constants() throws IllegalAccessException {
        Set<String> visible = new TreeSet<>();
        for (Field field : MergedOutline.class.getDeclaredFields()) {
            if (!Modifier.isPrivate(field.getModifiers())) {
                due(field.getName(), field.getModifiers(), Modifier.PUBLIC | Modifier.STATIC | Modifier.FINAL);
                due(field.getName(), field.getType(), int.class);
                visible.add(field.getName() + " " + field.getInt(null));
            } else if (Modifier.isStatic(field.getModifiers())) {
                due(field.getName() + " is final", Modifier.isFinal(field.getModifiers()), true);
            }
        }
        due("constants", visible, new TreeSet<>(CONSTANTS));
    }

    private static void constructors() {
        Constructor<?>[] all = MergedOutline.class.getDeclaredConstructors();
        due("constructors", all.length, 1);
        due("parameters of the constructor", all[0].getParameterCount(), 0);
        due("the constructor is public", all[0].getModifiers(), Modifier.PUBLIC);
        due("the class", MergedOutline.class.getModifiers(), Modifier.PUBLIC | Modifier.FINAL);
        due("what it extends", MergedOutline.class.getSuperclass(), Object.class);
        due("what it implements", MergedOutline.class.getInterfaces().length, 0);
    }

    private static void inside() {
        Class<?>[] all = MergedOutline.class.getDeclaredClasses();
        due("at most twelve classes", all.length + 1 <= 12, true);
        for (Class<?> one : all) {
            due(one + " is static", Modifier.isStatic(one.getModifiers()), true);
            due(one + " is not public", Modifier.isPublic(one.getModifiers()), false);
            long fields = Arrays.stream(one.getDeclaredFields())
                    .filter(field -> !Modifier.isStatic(field.getModifiers())).count();
            due(one + " has some twenty fields", fields <= 20, true);
            for (Method method : one.getDeclaredMethods()) {
                due(method + "'s parameters", method.getParameterCount() <= 7, true);
            }
        }
    }

    private static void source(String text) {
        String code = text.replaceAll("(?s)/\\*.*?\\*/", "").replaceAll("//[^\n]*", "");
        for (String word : FORBIDDEN) {
            Matcher found = Pattern.compile(word).matcher(code);
            due("the source has " + word, found.find(), false);
        }
        due("lines of the longest method", longestMethod(code) <= 60, true);
        for (String line : madeOutsideConstructors(code)) {
            due("made in a method", line, "");
        }
    }

    private static int longestMethod(String code) {
        int longest = 0;
        Matcher method = Pattern.compile("(?m)^( {4}| {8})[a-zA-Z][^;=]*\\) \\{$(?s:.*?)^\\1\\}$").matcher(code);
        while (method.find()) {
            longest = Math.max(longest, method.group().split("\n").length);
        }
        return longest;
    }

    /** No call but a constructor makes an object or an array, so a run stays as small as its objects. */
    private static List<String> madeOutsideConstructors(String code) {
        List<String> found = new ArrayList<>();
        boolean inConstructor = false;
        for (String line : code.split("\n")) {
            if (line.matches(" {8}[A-Z][A-Za-z]*\\(.*\\) \\{")) {
                inConstructor = true;
            } else if (line.equals("        }")) {
                inConstructor = false;
            }
            boolean isField = line.matches(" {4,8}private final [^(]*= new .*;");
            if (line.contains("new ") && !isField && !inConstructor) {
                found.add(line.strip());
            }
        }
        return found;
    }
}
