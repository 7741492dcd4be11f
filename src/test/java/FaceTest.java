import java.lang.reflect.Constructor;
import java.lang.reflect.Field;
import java.lang.reflect.Method;
import java.lang.reflect.Modifier;
import java.util.List;
import java.util.Set;
import java.util.TreeSet;

/** The public face as the document tells it: none left out and none added. */
public final class FaceTest {
    private static final List<String> FACE = List.of("adds 5", "moves 4", "renames 3", "edits 3", "deletes 2", "forks 0",
            "prefers 1", "adopts 0", "has 2", "of 3", "walk 2", "size 2", "alike 2", "conflicts 2", "script 3",
            "matches 2", "told 1", "type 1", "clear 0", "does 0", "back 0", "refused 1", "digest 0");
    private static final List<String> CONSTANTS = List.of("NONE -1", "BAD -2", "NO -3", "FULL -4");
    private static int wrong = 0;

    public static void main(String[] args) throws IllegalAccessException {
        methods();
        constants();
        constructors();
        System.exit(wrong == 0 ? 0 : 1);
    }

    private static void due(String what, Object got, Object want) {
        if (!got.equals(want)) {
            wrong++;
            System.out.println(what + ": " + got + ", due is " + want);
        }
    }

    private static void methods() {
        Set<String> visible = new TreeSet<>();
        Set<String> hidden = new TreeSet<>();
        for (Method method : MergedOutline.class.getDeclaredMethods()) {
            if (Modifier.isPrivate(method.getModifiers())) {
                hidden.add(method.getName());
                continue;
            }
            due(method + " is public alone", method.getModifiers(), Modifier.PUBLIC);
            visible.add(method.getName() + " " + method.getParameterCount());
            due(method + "'s answer", method.getReturnType(), method.getName().equals("digest") ? long.class : int.class);
            for (Class<?> parameter : method.getParameterTypes()) {
                due(method + "'s parameters", parameter, int.class);
            }
        }
        due("methods", visible, new TreeSet<>(FACE));
        for (String name : FACE) {
            due("a private method of that name: " + name, hidden.contains(name.split(" ")[0]), false);
        }
    }

    private static void constants() throws IllegalAccessException {
        Set<String> visible = new TreeSet<>();
        for (Field field : MergedOutline.class.getDeclaredFields()) {
            if (!Modifier.isPrivate(field.getModifiers())) {
                due(field.getName(), field.getModifiers(), Modifier.PUBLIC | Modifier.STATIC | Modifier.FINAL);
                due(field.getName(), field.getType(), int.class);
                visible.add(field.getName() + " " + field.getInt(null));
            } else if (Modifier.isStatic(field.getModifiers())) {
                due(field.getName() + " is final", Modifier.isFinal(field.getModifiers()), true);
            }
        }
        due("constants", visible, new TreeSet<>(CONSTANTS));
    }

    private static void constructors() {
        Constructor<?>[] all = MergedOutline.class.getDeclaredConstructors();
        due("constructors", all.length, 1);
        due("parameters of the constructor", all[0].getParameterCount(), 0);
        due("the constructor is public", all[0].getModifiers(), Modifier.PUBLIC);
        due("the class", MergedOutline.class.getModifiers(), Modifier.PUBLIC | Modifier.FINAL);
        due("what it extends", MergedOutline.class.getSuperclass(), Object.class);
        due("what it implements", MergedOutline.class.getInterfaces().length, 0);
    }
}
