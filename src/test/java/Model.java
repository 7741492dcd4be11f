import java.util.ArrayList;
import java.util.Arrays;
import java.util.Collections;
import java.util.Comparator;
import java.util.HashSet;
import java.util.LinkedHashSet;
import java.util.LinkedList;
import java.util.List;
import java.util.Map;
import java.util.Set;
import java.util.TreeMap;
import java.util.TreeSet;
import java.util.regex.Matcher;
import java.util.regex.Pattern;

/**
 * The document once more, said with lists, maps and patterns: slow, and as unlike the class as it can be,
 * so that a slip in one of the two shows as two answers.
 */
final class Model {
    static final int NONE = -1, BAD = -2, NO = -3, FULL = -4;

    static final class Node {
        final int number;
        int name;
        int text;
        Node parent;
        final List<Node> children = new ArrayList<>();

        Node(int number) {
            this.number = number;
        }
    }

    static final class Tree {
        final Map<Integer, Node> nodes = new TreeMap<>();

        Tree() {
            nodes.put(0, new Node(0));
        }

        Tree copy() {
            Tree twin = new Tree();
            for (Node node : nodes.values()) {
                Node made = twin.nodes.computeIfAbsent(node.number, Node::new);
                made.name = node.name;
                made.text = node.text;
            }
            for (Node node : nodes.values()) {
                for (Node child : node.children) {
                    twin.hang(twin.get(child.number), twin.get(node.number), -1);
                }
            }
            return twin;
        }

        Node get(int s) {
            return nodes.get(s);
        }

        void hang(Node child, Node parent, int place) {
            child.parent = parent;
            parent.children.add(place < 0 ? parent.children.size() : place, child);
        }

        int parent(int s) {
            Node node = get(s);
            return node == null || node.parent == null ? NONE : node.parent.number;
        }

        int place(int s) {
            Node node = get(s);
            return node.parent == null ? 0 : node.parent.children.indexOf(node);
        }

        List<Node> below(Node top) {
            List<Node> all = new ArrayList<>();
            all.add(top);
            for (Node child : top.children) {
                all.addAll(below(child));
            }
            return all;
        }

        int depth(Node top) {
            int deepest = 0;
            for (Node child : top.children) {
                deepest = Math.max(deepest, 1 + depth(child));
            }
            return deepest;
        }

        List<Integer> signature(int s) {
            Node node = get(s);
            return node == null ? null : List.of(parent(s), place(s), node.name, node.text);
        }
    }

    static final class State {
        final List<Tree> trees = new ArrayList<>();
        int preferred = 1;
        Set<Integer> used = new HashSet<>(Set.of(0));

        static State fresh() {
            State state = new State();
            for (int o = 0; o < 3; o++) {
                state.trees.add(new Tree());
            }
            return state;
        }

        State copy() {
            State twin = new State();
            for (Tree tree : trees) {
                twin.trees.add(tree.copy());
            }
            twin.preferred = preferred;
            twin.used = new HashSet<>(used);
            return twin;
        }
    }

    private static final String NUMBER = "[0-9]{1,2}";
    private static final String ORDER = "(?:a *" + NUMBER + "(?: +" + NUMBER + "){4} *;"
            + "|m *" + NUMBER + "(?: +" + NUMBER + "){3} *;"
            + "|[re] *" + NUMBER + "(?: +" + NUMBER + "){2} *;"
            + "|d *" + NUMBER + " +" + NUMBER + " *;"
            + "|p *" + NUMBER + " *;"
            + "|f *;)";
    private static final Pattern WHOLE = Pattern.compile(" *(?:" + ORDER + " *)+");

    State now = State.fresh();
    final LinkedList<State> states = new LinkedList<>();
    final StringBuilder text = new StringBuilder();
    final int[] refusals = new int[3];
    boolean counting = true;

    Tree merged;
    List<int[]> conflicts;
    final Map<String, Integer> seen = new TreeMap<>();

    private void see(String what) {
        seen.merge(what, 1, Integer::sum);
    }

    private int refuse(int why) {
        if (counting) {
            refusals[-2 - why]++;
        }
        return why;
    }

    private boolean in(int v, int low, int high) {
        return low <= v && v <= high;
    }

    private void keep(State state) {
        if (!counting) {
            return;
        }
        states.addLast(state);
        if (states.size() > 5) {
            states.removeFirst();
        }
    }

    int adds(int o, int p, int k, int n, int t) {
        if (!in(o, 0, 2) || now.trees.get(o).get(p) == null || !in(k, 0, now.trees.get(o).get(p).children.size())
                || !in(n, 0, 99) || !in(t, 0, 99)) {
            return refuse(BAD);
        }
        int s = told(1);
        if (s == 16) {
            return refuse(FULL);
        }
        State old = now.copy();
        Tree tree = now.trees.get(o);
        Node made = new Node(s);
        made.name = n;
        made.text = t;
        tree.nodes.put(s, made);
        tree.hang(made, tree.get(p), k);
        now.used.add(s);
        keep(old);
        return s;
    }

    int moves(int o, int s, int p, int k) {
        if (!in(o, 0, 2) || s == 0 || now.trees.get(o).get(s) == null || now.trees.get(o).get(p) == null) {
            return refuse(BAD);
        }
        Tree tree = now.trees.get(o);
        Node node = tree.get(s);
        List<Node> rest = new ArrayList<>(tree.get(p).children);
        rest.remove(node);
        if (!in(k, 0, rest.size())) {
            return refuse(BAD);
        }
        if (tree.below(node).contains(tree.get(p))) {
            return refuse(NO);
        }
        State old = now.copy();
        int had = tree.place(s);
        node.parent.children.remove(node);
        tree.hang(node, tree.get(p), k);
        keep(old);
        return had;
    }

    int renames(int o, int s, int v) {
        if (!in(o, 0, 2) || now.trees.get(o).get(s) == null || !in(v, 0, 99)) {
            return refuse(BAD);
        }
        State old = now.copy();
        Node node = now.trees.get(o).get(s);
        int had = node.name;
        node.name = v;
        keep(old);
        return had;
    }

    int edits(int o, int s, int v) {
        if (!in(o, 0, 2) || now.trees.get(o).get(s) == null || !in(v, 0, 99)) {
            return refuse(BAD);
        }
        State old = now.copy();
        Node node = now.trees.get(o).get(s);
        int had = node.text;
        node.text = v;
        keep(old);
        return had;
    }

    int deletes(int o, int s) {
        if (!in(o, 0, 2) || s == 0 || now.trees.get(o).get(s) == null) {
            return refuse(BAD);
        }
        State old = now.copy();
        Tree tree = now.trees.get(o);
        List<Node> going = tree.below(tree.get(s));
        tree.get(s).parent.children.remove(tree.get(s));
        for (Node node : going) {
            tree.nodes.remove(node.number);
        }
        keep(old);
        return going.size();
    }

    int forks() {
        State old = now.copy();
        now.trees.set(1, now.trees.get(0).copy());
        now.trees.set(2, now.trees.get(0).copy());
        keep(old);
        return now.trees.get(0).nodes.size();
    }

    int prefers(int k) {
        if (!in(k, 1, 2)) {
            return refuse(BAD);
        }
        keep(now.copy());
        int had = now.preferred;
        now.preferred = k;
        return had;
    }

    int adopts() {
        merge();
        keep(now.copy());
        for (int o = 0; o < 3; o++) {
            now.trees.set(o, merged.copy());
        }
        return merged.nodes.size();
    }

    private Tree tree(int o) {
        if (o < 3) {
            return now.trees.get(o);
        }
        merge();
        return merged;
    }

    int has(int o, int s) {
        if (!in(o, 0, 3) || !in(s, 0, 15)) {
            return refuse(BAD);
        }
        return tree(o).nodes.containsKey(s) ? 1 : 0;
    }

    int of(int o, int s, int what) {
        if (!in(o, 0, 3) || !in(what, 0, 5) || tree(o).get(s) == null) {
            return refuse(BAD);
        }
        Tree tree = tree(o);
        Node node = tree.get(s);
        return new int[] {tree.parent(s), tree.place(s), node.name, node.text, node.children.size(),
                tree.below(node).size()}[what];
    }

    int walk(int o, int i) {
        if (!in(o, 0, 3) || i < 0) {
            return refuse(BAD);
        }
        Tree tree = tree(o);
        List<Node> all = tree.below(tree.get(0));
        return i < all.size() ? all.get(i).number : NONE;
    }

    int size(int o, int what) {
        if (!in(o, 0, 3) || !in(what, 0, 1)) {
            return refuse(BAD);
        }
        Tree tree = tree(o);
        return what == 0 ? tree.nodes.size() : tree.depth(tree.get(0));
    }

    int alike(int a, int b) {
        if (!in(a, 0, 3) || !in(b, 0, 3)) {
            return refuse(BAD);
        }
        Tree one = tree(a);
        Tree two = tree(b);
        int count = 0;
        for (int s : one.nodes.keySet()) {
            if (one.signature(s).equals(two.signature(s))) {
                count++;
            }
        }
        return count;
    }

    int conflicts(int i, int what) {
        if (i < -1 || !in(what, 0, 2) || (i == -1 && what != 0)) {
            return refuse(BAD);
        }
        merge();
        return rowOf(conflicts, i, what);
    }

    private static int rowOf(List<int[]> rows, int i, int what) {
        if (i == NONE) {
            return rows.size();
        }
        return i < rows.size() ? rows.get(i)[what] : -5;
    }

    int script(int o, int i, int what) {
        if (!in(o, 1, 2) || i < -1 || !in(what, 0, 1) || (i == -1 && what != 0)) {
            return refuse(BAD);
        }
        return rowOf(scriptOf(o), i, what);
    }

    List<int[]> scriptOf(int o) {
        Tree base = now.trees.get(0);
        Tree side = now.trees.get(o);
        List<int[]> rows = new ArrayList<>();
        Set<Integer> all = new TreeSet<>(base.nodes.keySet());
        all.addAll(side.nodes.keySet());
        for (int s : all) {
            Node was = base.get(s);
            Node is = side.get(s);
            if (was == null) {
                rows.add(new int[] {1, s});
            } else if (is == null) {
                rows.add(new int[] {2, s});
            } else {
                if (base.parent(s) != side.parent(s)) {
                    rows.add(new int[] {3, s});
                }
                if (was.name != is.name) {
                    rows.add(new int[] {4, s});
                }
                if (was.text != is.text) {
                    rows.add(new int[] {5, s});
                }
            }
        }
        return rows;
    }

    int matches(int o, int s) {
        if (!in(o, 1, 2) || s == 0 || now.trees.get(o).get(s) == null) {
            return refuse(BAD);
        }
        return matchesOf(o).getOrDefault(s, NONE);
    }

    Map<Integer, Integer> matchesOf(int o) {
        Tree base = now.trees.get(0);
        Tree side = now.trees.get(o);
        List<int[]> pairs = new ArrayList<>();
        for (Node b : base.nodes.values()) {
            for (Node s : side.nodes.values()) {
                if (b.number != 0 && s.number != 0) {
                    int score = (b.name == s.name ? 4 : 0) + (b.text == s.text ? 2 : 0)
                            + (b.parent.name == s.parent.name ? 2 : 0)
                            + (base.place(b.number) == side.place(s.number) ? 1 : 0);
                    pairs.add(new int[] {score, b.number, s.number});
                }
            }
        }
        pairs.sort(Comparator.<int[]>comparingInt(pair -> -pair[0]).thenComparingInt(pair -> pair[1])
                .thenComparingInt(pair -> pair[2]));
        Map<Integer, Integer> found = new TreeMap<>();
        for (int[] pair : pairs) {
            if (pair[0] >= 3 && !found.containsValue(pair[1])) {
                found.putIfAbsent(pair[2], pair[1]);
            }
        }
        return found;
    }

    int told(int what) {
        if (!in(what, 0, 3)) {
            return refuse(BAD);
        }
        if (what == 0) {
            return now.preferred;
        }
        if (what == 1) {
            for (int s = 0; s < 16; s++) {
                if (!now.used.contains(s)) {
                    return s;
                }
            }
            return 16;
        }
        int count = 0;
        for (Map.Entry<Integer, Integer> match : matchesOf(what - 1).entrySet()) {
            if (!match.getKey().equals(match.getValue())) {
                count++;
            }
        }
        return count;
    }

    int type(int c) {
        if (!in(c, 0, 127)) {
            return refuse(BAD);
        }
        if (text.length() == 150) {
            return refuse(FULL);
        }
        text.append((char) c);
        return text.length();
    }

    int clear() {
        int had = text.length();
        text.setLength(0);
        return had;
    }

    private int fault() {
        for (int i = 1; i <= text.length(); i++) {
            Matcher matcher = WHOLE.matcher(text.substring(0, i));
            if (!matcher.matches() && !matcher.hitEnd()) {
                return i - 1;
            }
        }
        return WHOLE.matcher(text).matches() ? NONE : text.length();
    }

    int does() {
        int fault = fault();
        if (fault != NONE) {
            see("fault");
            return -10 - fault;
        }
        State old = now.copy();
        String[] orders = text.toString().split(";");
        int done = 0;
        for (String order : orders) {
            if (order.isBlank()) {
                continue;
            }
            counting = false;
            int answer = perform(order.strip());
            counting = true;
            if (answer < 0) {
                now = old;
                see("order refused " + answer);
                return -1000 - done;
            }
            done++;
        }
        keep(old);
        see("orders done");
        return done;
    }

    private int perform(String order) {
        String rest = order.substring(1).strip();
        int[] v = rest.isEmpty() ? new int[0] : Arrays.stream(rest.split(" +")).mapToInt(Integer::parseInt).toArray();
        switch (order.charAt(0)) {
            case 'a': return adds(v[0], v[1], v[2], v[3], v[4]);
            case 'm': return moves(v[0], v[1], v[2], v[3]);
            case 'r': return renames(v[0], v[1], v[2]);
            case 'e': return edits(v[0], v[1], v[2]);
            case 'd': return deletes(v[0], v[1]);
            case 'f': return forks();
            default: return prefers(v[0]);
        }
    }

    int back() {
        if (states.isEmpty()) {
            return refuse(NO);
        }
        now = states.removeLast();
        return states.size();
    }

    int refused(int what) {
        if (!in(what, 0, 4)) {
            return refuse(BAD);
        }
        return new int[] {refusals[0], refusals[1], refusals[2], text.length(), states.size()}[what];
    }

    long digest() {
        List<Integer> values = new ArrayList<>();
        for (int what = 0; what < 5; what++) {
            values.add(refused(what));
        }
        for (int what = 0; what < 4; what++) {
            values.add(told(what));
        }
        for (int o = 0; o < 4; o++) {
            Tree tree = tree(o);
            values.add(tree.nodes.size());
            values.add(tree.depth(tree.get(0)));
            for (Node node : tree.below(tree.get(0))) {
                values.add(node.number);
                values.addAll(tree.signature(node.number));
            }
        }
        values.add(conflicts.size());
        for (int[] conflict : conflicts) {
            for (int v : conflict) {
                values.add(v);
            }
        }
        values.add(scriptOf(1).size());
        values.add(scriptOf(2).size());
        long h = 1703;
        for (int v : values) {
            h = 31 * h + v;
        }
        return h;
    }

    // ---- MERGED, as the steps (a) to (g) tell it

    private void merge() {
        conflicts = new ArrayList<>();
        Tree base = now.trees.get(0);
        Tree preferred = now.trees.get(now.preferred);
        Tree other = now.trees.get(3 - now.preferred);
        Set<Integer> in = mergedNumbers(base, preferred, other);
        Map<Integer, Integer> names = new TreeMap<>();
        Map<Integer, Integer> texts = new TreeMap<>();
        Map<Integer, Integer> parents = new TreeMap<>();
        for (int kind = 0; kind < 3; kind++) {
            for (int s : in) {
                Integer was = traitOf(base, s, kind);
                Integer first = traitOf(preferred, s, kind);
                Integer second = traitOf(other, s, kind);
                Integer chosen;
                if (second == null || (second.equals(was) && first != null)) {
                    chosen = first;
                } else if (first == null || first.equals(was)) {
                    chosen = second;
                } else {
                    chosen = first;
                    if (!first.equals(second)) {
                        conflicts.add(new int[] {kind, s, kind == 2 ? second : s});
                    }
                }
                List.of(names, texts, parents).get(kind).put(s, chosen);
            }
        }
        for (int s : in) {
            int parent = parents.get(s);
            if (s != 0 && !in.contains(parent)) {
                conflicts.add(new int[] {4, s, parent});
                parents.put(s, nearest(parent, in, base));
            }
        }
        undoRings(in, parents, base, other);
        build(in, names, texts, parents, preferred, other);
        for (int[] conflict : conflicts) {
            see("conflict " + conflict[0]);
        }
    }

    private static Integer traitOf(Tree tree, int s, int kind) {
        Node node = tree.get(s);
        if (node == null) {
            return null;
        }
        return kind == 0 ? (Integer) node.name : kind == 1 ? (Integer) node.text : (Integer) tree.parent(s);
    }

    private Set<Integer> mergedNumbers(Tree base, Tree preferred, Tree other) {
        Set<Integer> in = new TreeSet<>();
        for (int s = 0; s < 16; s++) {
            boolean a = preferred.nodes.containsKey(s);
            boolean b = other.nodes.containsKey(s);
            if (base.nodes.containsKey(s) && (a ^ b)) {
                if (isChanged(base, a ? preferred : other, s)) {
                    conflicts.add(new int[] {3, s, s});
                    in.add(s);
                }
            } else if (base.nodes.containsKey(s) ? a && b : a || b) {
                in.add(s);
            }
        }
        return in;
    }

    private static boolean isChanged(Tree base, Tree side, int s) {
        Node was = base.get(s);
        Node is = side.get(s);
        Set<Integer> children = new HashSet<>();
        for (Node child : is.children) {
            children.add(child.number);
        }
        for (Node child : was.children) {
            children.remove(child.number);
        }
        return was.name != is.name || was.text != is.text || base.parent(s) != side.parent(s) || !children.isEmpty();
    }

    private static int nearest(int from, Set<Integer> in, Tree base) {
        int q = from;
        while (!in.contains(q)) {
            q = base.parent(q);
        }
        return q;
    }

    private void undoRings(Set<Integer> in, Map<Integer, Integer> parents, Tree base, Tree other) {
        Set<Integer> done = new HashSet<>();
        while (true) {
            Set<Integer> ring = firstRing(in, parents);
            if (ring == null) {
                return;
            }
            see("ring of " + ring.size());
            int chosen = NONE;
            for (int s : ring) {
                int parent = parents.get(s);
                if (base.get(s) != null && other.get(s) != null && parent == other.parent(s)
                        && parent != base.parent(s) && !done.contains(s)) {
                    chosen = s;
                    break;
                }
            }
            int s = chosen == NONE ? Collections.min(ring) : chosen;
            conflicts.add(new int[] {5, s, parents.get(s)});
            if (chosen == NONE) {
                see("ring cut at the ROOT");
                parents.put(s, 0);
            } else {
                done.add(s);
                see(in.contains(base.parent(s)) ? "put back" : "put back higher");
                parents.put(s, nearest(base.parent(s), in, base));
            }
        }
    }

    private static Set<Integer> firstRing(Set<Integer> in, Map<Integer, Integer> parents) {
        for (int s : in) {
            LinkedHashSet<Integer> path = new LinkedHashSet<>();
            int q = s;
            while (q != NONE && path.add(q)) {
                q = parents.get(q);
            }
            if (q == s) {
                return new TreeSet<>(path);
            }
        }
        return null;
    }

    private void build(Set<Integer> in, Map<Integer, Integer> names, Map<Integer, Integer> texts,
            Map<Integer, Integer> parents, Tree preferred, Tree other) {
        merged = new Tree();
        List<int[]> keyed = new ArrayList<>();
        for (int s : in) {
            Node node = merged.nodes.computeIfAbsent(s, Node::new);
            node.name = names.get(s);
            node.text = texts.get(s);
            if (s != 0) {
                int parent = parents.get(s);
                int key = 100;
                if (preferred.get(s) != null && preferred.parent(s) == parent) {
                    key = 2 * preferred.place(s);
                } else if (other.get(s) != null && other.parent(s) == parent) {
                    key = 2 * other.place(s) + 1;
                } else {
                    see("key 100");
                }
                keyed.add(new int[] {key, s, parent});
            }
        }
        keyed.sort(Comparator.<int[]>comparingInt(row -> row[0]).thenComparingInt(row -> row[1]));
        for (int[] row : keyed) {
            merged.hang(merged.get(row[1]), merged.get(row[2]), -1);
        }
    }
}
