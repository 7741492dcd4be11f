import java.util.Map;
import java.util.Random;
import java.util.TreeMap;

/** Long runs of calls, the same ones each time, on the class and on the model, which must answer alike. */
public final class ModelTest {
    private static final int RUNS = 2500;
    /* A step types at most four orders; a text may make THE TEXT full, never the step longer. */
    private static final int LONGEST_STEP = 160;

    private final Random dice;
    private final Used real = new Used();
    private final Model model = new Model();
    private final StringBuilder log = new StringBuilder();
    private final boolean wild;
    private final boolean tangled;

    private ModelTest(long seed) {
        dice = new Random(seed);
        wild = seed % 5 == 0;
        tangled = seed % 5 == 1;
    }

    public static void main(String[] args) {
        Map<String, Integer> seen = new TreeMap<>();
        int wrong = 0;
        for (long seed = 1; seed <= RUNS && wrong < 5; seed++) {
            ModelTest run = new ModelTest(seed);
            wrong += run.differs() ? 1 : 0;
            run.model.seen.forEach((what, count) -> seen.merge(what, count, Integer::sum));
        }
        System.out.println("what the runs met: " + seen);
        for (String due : new String[] {"conflict 0", "conflict 1", "conflict 2", "conflict 3", "conflict 4",
                "conflict 5", "ring of 2", "ring of 3", "ring of 4", "put back", "put back higher", "key 100",
                "ring cut at the ROOT", "fault", "orders done", "order refused -2", "order refused -3",
                "order refused -4"}) {
            if (!seen.containsKey(due)) {
                System.out.println("no run met: " + due);
                wrong++;
            }
        }
        System.exit(wrong == 0 ? 0 : 1);
    }

    private boolean differs() {
        if (tangled || dice.nextBoolean()) {
            for (int i = dice.nextInt(10); i > 0; i--) {
                if (addsInBase()) {
                    return true;
                }
            }
            if (same("forks()", real.forks(), model.forks())) {
                return true;
            }
        }
        while (real.callsLeft() > LONGEST_STEP) {
            if (step() || same("digest()", real.digest(), model.digest())) {
                return true;
            }
        }
        return false;
    }

    private boolean same(String call, long got, long due) {
        log.append(call).append(" -> ").append(got).append('\n');
        if (got == due) {
            return false;
        }
        System.out.println(log.append("due was ").append(due));
        return true;
    }

    private int pick(int low, int high) {
        if (dice.nextInt(wild ? 8 : 60) == 0) {
            int[] odd = {low - 1, high + 1, Integer.MIN_VALUE, Integer.MAX_VALUE, -1, 16, 100};
            return odd[dice.nextInt(odd.length)];
        }
        return low + dice.nextInt(high - low + 1);
    }

    private int section(int o) {
        if (o >= 0 && o <= 2 && dice.nextInt(12) != 0) {
            Object[] all = model.now.trees.get(o).nodes.keySet().toArray();
            return (Integer) all[dice.nextInt(all.length)];
        }
        return pick(0, 15);
    }

    private int place(int o, int p) {
        if (o >= 0 && o <= 2 && model.now.trees.get(o).get(p) != null) {
            return pick(0, model.now.trees.get(o).get(p).children.size());
        }
        return pick(0, 3);
    }

    private int value() {
        return dice.nextInt(10) == 0 ? pick(0, 99) : dice.nextInt(4);
    }

    private boolean addsInBase() {
        int p = section(0);
        int k = place(0, p);
        int n = value();
        int t = value();
        return same("adds(0, " + p + ", " + k + ", " + n + ", " + t + ")",
                real.adds(0, p, k, n, t), model.adds(0, p, k, n, t));
    }

    private boolean step() {
        if (tangled && dice.nextInt(6) != 0) {
            return moves(outlineToEdit());
        }
        int kind = dice.nextInt(100);
        if (kind < 60) {
            return act(kind);
        }
        return kind < 85 ? asks() : writes(kind);
    }

    private int outlineToEdit() {
        return dice.nextInt(5) == 0 ? pick(0, 2) : 1 + dice.nextInt(2);
    }

    private boolean act(int kind) {
        int o = outlineToEdit();
        int s = section(o);
        if (kind < 8) {
            int k = place(o, s);
            int n = value();
            int t = value();
            return same("adds(" + o + ", " + s + ", " + k + ", " + n + ", " + t + ")",
                    real.adds(o, s, k, n, t), model.adds(o, s, k, n, t));
        }
        if (kind < 34) {
            return moves(o);
        }
        int v = value();
        if (kind < 41) {
            return same("renames(" + o + ", " + s + ", " + v + ")", real.renames(o, s, v), model.renames(o, s, v));
        }
        if (kind < 48) {
            return same("edits(" + o + ", " + s + ", " + v + ")", real.edits(o, s, v), model.edits(o, s, v));
        }
        if (kind < 52) {
            return same("deletes(" + o + ", " + s + ")", real.deletes(o, s), model.deletes(o, s));
        }
        if (kind < 53) {
            return same("forks()", real.forks(), model.forks());
        }
        if (kind < 54) {
            return dice.nextBoolean() && same("adopts()", real.adopts(), model.adopts());
        }
        if (kind < 57) {
            int k = pick(1, 2);
            return same("prefers(" + k + ")", real.prefers(k), model.prefers(k));
        }
        return same("back()", real.back(), model.back());
    }

    private boolean moves(int o) {
        int s = section(o);
        int p = section(o);
        int k = place(o, p);
        return same("moves(" + o + ", " + s + ", " + p + ", " + k + ")",
                real.moves(o, s, p, k), model.moves(o, s, p, k));
    }

    private boolean asks() {
        int a = pick(0, 3);
        int b = pick(0, 3);
        int what = pick(0, 5);
        int i = pick(-1, 6);
        int s = section(a);
        switch (dice.nextInt(10)) {
            case 0: return same("has(" + a + ", " + s + ")", real.has(a, s), model.has(a, s));
            case 1: return same("of(" + a + ", " + s + ", " + what + ")", real.of(a, s, what), model.of(a, s, what));
            case 2: return same("walk(" + a + ", " + i + ")", real.walk(a, i), model.walk(a, i));
            case 3: return same("size(" + a + ", " + b + ")", real.size(a, b), model.size(a, b));
            case 4: return same("alike(" + a + ", " + b + ")", real.alike(a, b), model.alike(a, b));
            case 5: return same("conflicts(" + i + ", " + b + ")", real.conflicts(i, b), model.conflicts(i, b));
            case 6: return same("script(" + a + ", " + i + ", " + b + ")", real.script(a, i, b), model.script(a, i, b));
            case 7: return same("matches(" + a + ", " + s + ")", real.matches(a, s), model.matches(a, s));
            case 8: return same("told(" + b + ")", real.told(b), model.told(b));
            default: return same("refused(" + what + ")", real.refused(what), model.refused(what));
        }
    }

    private boolean writes(int kind) {
        if (kind < 88) {
            int c = pick(0, 127);
            return same("type(" + c + ")", real.type(c), model.type(c));
        }
        if (dice.nextInt(6) != 0 && same("clear()", real.clear(), model.clear())) {
            return true;
        }
        for (char c : orders().toCharArray()) {
            if (same("type(" + (int) c + ")", real.type(c), model.type(c))) {
                return true;
            }
        }
        return same("does()", real.does(), model.does());
    }

    /** Mostly well said; one sign in some texts is another. */
    private String orders() {
        StringBuilder text = new StringBuilder();
        for (int i = dice.nextInt(4); i >= 0; i--) {
            text.append(order());
        }
        if (dice.nextInt(4) == 0) {
            String signs = "0123456789 ;ampdrefx";
            int at = dice.nextInt(text.length());
            text.setCharAt(at, signs.charAt(dice.nextInt(signs.length())));
        }
        if (dice.nextInt(8) == 0) {
            text.setLength(dice.nextInt(text.length() + 1));
        }
        return text.toString();
    }

    private String order() {
        int o = Math.floorMod(outlineToEdit(), 100);
        int s = Math.floorMod(section(o), 100);
        int p = Math.floorMod(section(o), 100);
        int k = Math.floorMod(place(o, p), 100);
        int v = Math.floorMod(value(), 100);
        switch (dice.nextInt(8)) {
            case 0: return spread('a', o, p, k, v, Math.floorMod(value(), 100));
            case 1:
            case 2: return spread('m', o, s, p, k);
            case 3: return spread('r', o, s, v);
            case 4: return spread('e', o, s, v);
            case 5: return spread('d', o, s);
            case 6: return spread('p', 1 + dice.nextInt(2));
            default: return dice.nextInt(4) == 0 ? spread('f') : spread('e', o, s, v);
        }
    }

    private String spread(char letter, int... numbers) {
        StringBuilder order = new StringBuilder(blanks()).append(letter).append(blanks());
        for (int i = 0; i < numbers.length; i++) {
            order.append(i > 0 ? " " : "").append(blanks());
            order.append(numbers[i] < 10 && dice.nextInt(5) == 0 ? "0" : "").append(numbers[i]);
        }
        return order.append(blanks()).append(';').append(blanks()).toString();
    }

    private String blanks() {
        return dice.nextInt(8) == 0 ? " " : "";
    }
}
