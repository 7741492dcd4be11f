import java.lang.reflect.InvocationTargetException;
import java.lang.reflect.Method;
import java.lang.reflect.Modifier;
import java.util.ArrayList;
import java.util.Comparator;
import java.util.List;
import java.util.function.Consumer;
import java.util.function.IntFunction;
import java.util.function.ToIntFunction;

/** What the tests have in common: asking an object, and saying what was due. */
abstract class Checks {
    static final int NONE = -1, BAD = -2, NO = -3, FULL = -4, NOT_SO_MANY = -5;
    static final int LEAST = Integer.MIN_VALUE, MOST = Integer.MAX_VALUE;

    /* Of what the digest tells: 5 counts and 4 numbers ahead of the outlines, 3 counts beside the conflicts. */
    private static final int COUNTS = 5, FIXED_VALUES = 5 + 4 + 3, STATES_AT = 4;

    static String at = "";
    private static int passed = 0;
    private static int wrong = 0;

    static void due(String what, long got, long want) {
        if (got == want) {
            passed++;
        } else {
            wrong++;
            System.out.println(at + ": " + what + " answered " + got + ", due is " + want);
        }
    }

    static void due(String what, String got, String want) {
        if (got.equals(want)) {
            passed++;
        } else {
            wrong++;
            System.out.println(at + ": " + what + " is '" + got + "', due is '" + want + "'");
        }
    }

    static void end(String name) {
        System.out.println(name + ": " + passed + " answers as due, " + wrong + " not");
        System.exit(wrong == 0 ? 0 : 1);
    }

    /** Every test of a class of edges, so that none is written and not run. */
    static void runEdges(Class<?> tests) throws IllegalAccessException {
        for (Method edge : edgesOf(tests)) {
            at = tests.getName() + "." + edge.getName();
            try {
                edge.invoke(null);
            } catch (InvocationTargetException thrown) {
                wrong++;
                System.out.println(at + ": threw " + thrown.getCause());
            }
        }
        end(tests.getName());
    }

    static List<Method> edgesOf(Class<?> tests) {
        List<Method> edges = new ArrayList<>();
        for (Method method : tests.getDeclaredMethods()) {
            if (method.getModifiers() == Modifier.STATIC && method.getParameterCount() == 0) {
                edges.add(method);
            }
        }
        edges.sort(Comparator.comparing(Method::getName));
        return edges;
    }

    // ---- bringing an object to where a test begins

    static int types(Used x, String text) {
        int answer = NONE;
        for (int i = 0; i < text.length(); i++) {
            answer = x.type(text.charAt(i));
        }
        return answer;
    }

    static int doesText(Used x, String text) {
        x.clear();
        types(x, text);
        return x.does();
    }

    /** Orders that must all be done, to come quickly to where a test begins. */
    static Used after(String... texts) {
        Used x = new Used();
        run(x, texts);
        return x;
    }

    static void run(Used x, String... texts) {
        for (String text : texts) {
            due("the orders " + text, doesText(x, text), text.chars().filter(c -> c == ';').count());
        }
    }

    static Used after(Consumer<Used> story) {
        Used x = new Used();
        story.accept(x);
        return x;
    }

    static void empty(Used x) {
    }

    /** Sections in all outlines, conflicts, a script for each side, five states of more, orders in THE TEXT. */
    static void grown(Used x) {
        x.adds(0, 0, 0, 10, 11);
        x.adds(0, 1, 0, 12, 13);
        x.adds(0, 0, 1, 14, 15);
        x.forks();
        x.renames(1, 1, 20);
        x.renames(2, 1, 21);
        x.moves(1, 3, 1, 0);
        x.deletes(2, 2);
        x.edits(1, 2, 9);
        x.adds(2, 0, 0, 30, 31);
        types(x, "r0 1 33;f;");
    }

    /** 15 sections on the ROOT of each outline, none free, five states, 150 bytes. */
    static void filled(Used x) {
        flat(x);
        x.forks();
        types(x, "f;".repeat(75));
    }

    /** Section s at place s - 1 of BASE's ROOT, NAME and TEXT s. */
    static void flat(Used x) {
        for (int s = 1; s < 16; s++) {
            x.adds(0, 0, s - 1, s, s);
        }
    }

    /** Section s on s - 1 in BASE, NAME and TEXT s. */
    static void chained(Used x) {
        for (int s = 1; s < 16; s++) {
            x.adds(0, s - 1, 0, s, s);
        }
    }

    // ---- asking for much at once

    /** Sections as walked, each with its PARENT. */
    static String walked(Used x, int o) {
        StringBuilder all = new StringBuilder();
        for (int i = 0; i < 17; i++) {
            int s = x.walk(o, i);
            if (s == NONE) {
                break;
            }
            all.append(i == 0 ? "" : " ").append(s).append(':').append(x.of(o, s, 0));
        }
        return all.toString();
    }

    static void walks(String what, Used x, int o, String want) {
        due(what, walked(x, o), want);
    }

    /** Conflicts told as kind, one, other, with commas between the rows. */
    static void told(String what, Used x, String want) {
        StringBuilder all = new StringBuilder();
        int count = x.conflicts(NONE, 0);
        for (int i = 0; i < count; i++) {
            all.append(i == 0 ? "" : ", ").append(x.conflicts(i, 0)).append(' ').append(x.conflicts(i, 1))
                    .append(' ').append(x.conflicts(i, 2));
        }
        due(what, all.toString(), want);
        due(what + ", behind the last", x.conflicts(count, 0), NOT_SO_MANY);
    }

    static void scripted(String what, Used x, int o, String want) {
        StringBuilder all = new StringBuilder();
        int count = x.script(o, NONE, 0);
        for (int i = 0; i < count; i++) {
            all.append(i == 0 ? "" : ", ").append(x.script(o, i, 0)).append(' ').append(x.script(o, i, 1));
        }
        due(what, all.toString(), want);
        due(what + ", behind the last", x.script(o, count, 1), NOT_SO_MANY);
    }

    // ---- what a call changes, seen by a twin that was not called

    /**
     * The call is refused for that reason and changes nothing but how often: a twin that was not called tells the same
     * digest but for that one count, its TEXT does the same, and it goes back the same way.
     */
    static void refuses(String what, Consumer<Used> story, ToIntFunction<Used> call, int why) {
        Used x = after(story);
        Used twin = after(story);
        due(what, call.applyAsInt(x), why);
        int kind = BAD - why;
        differs(what + ", all but how often", x, twin, kind, 1);
        due(what + ", THE TEXT", x.does(), twin.does());
        differs(what + ", what THE TEXT does", x, twin, kind, 1);
        for (int i = 0; i < 6; i++) {
            due(what + ", the states", x.back(), twin.back());
            differs(what + ", what was kept", x, twin, kind, 1);
        }
    }

    static void refusesEverywhere(String what, ToIntFunction<Used> call, int why) {
        refuses(what + " (a new object)", Checks::empty, call, why);
        refuses(what + " (grown)", Checks::grown, call, why);
        refuses(what + " (filled)", Checks::filled, call, why);
    }

    /** The numbers next to a range, and the farthest ones, are BAD wherever the object stands. */
    static void outside(String what, int low, int high, IntFunction<ToIntFunction<Used>> call) {
        outside(what + " (a new object)", Checks::empty, low, high, call);
        outside(what + " (grown)", Checks::grown, low, high, call);
        outside(what + " (filled)", Checks::filled, low, high, call);
    }

    static void outside(String what, Consumer<Used> story, int low, int high, IntFunction<ToIntFunction<Used>> call) {
        for (int v : new int[] {low - 1, high + 1, LEAST, MOST}) {
            refuses(what + " " + v, story, call.apply(v), BAD);
        }
    }

    /** The call answers so, leaves one STATE, and back() takes away all that it did. */
    static void leaves(String what, Consumer<Used> story, ToIntFunction<Used> call, int answer) {
        Used x = after(story);
        Used twin = after(story);
        int had = twin.refused(STATES_AT);
        due(what, call.applyAsInt(x), answer);
        int has = Math.min(had + 1, 5);
        due(what + ", states", x.refused(STATES_AT), has);
        due(what + ", back", x.back(), has - 1);
        differs(what + ", all is as it was", x, twin, STATES_AT, has - 1 - had);
    }

    /** The call answers so, and nothing at all becomes other by it. */
    static void asks(String what, Consumer<Used> story, ToIntFunction<Used> call, int answer) {
        Used x = after(story);
        Used twin = after(story);
        due(what, call.applyAsInt(x), answer);
        due(what + ", all is as it was", x.digest(), twin.digest());
        due(what + ", THE TEXT", x.does(), twin.does());
        due(what + ", the states", x.back(), twin.back());
        due(what + ", what was kept", x.digest(), twin.digest());
    }

    /** One of the first five values of the digest is more by that much than the twin's, all others are alike. */
    static void differs(String what, Used x, Used twin, int value, int by) {
        if (value < 0 || value >= COUNTS) {
            throw new IllegalArgumentException("no count of the digest: " + value);
        }
        long weight = 1;
        for (int i = valuesOf(twin) - 1 - value; i > 0; i--) {
            weight *= 31;
        }
        due(what, x.digest() - twin.digest(), by * weight);
    }

    private static int valuesOf(Used x) {
        int values = FIXED_VALUES + 3 * x.conflicts(NONE, 0);
        for (int o = 0; o < 4; o++) {
            values += 2 + 5 * x.size(o, 0);
        }
        return values;
    }
}
