/**
 * An object of the class that counts its calls: the document promises 512 of them, what later ones answer is free,
 * so no test may rest on one.
 */
final class Used {
    static final int MOST_CALLS = 512;

    private final MergedOutline x = new MergedOutline();
    private int calls = 0;

    private MergedOutline next() {
        calls++;
        if (calls > MOST_CALLS) {
            throw new IllegalStateException("a test uses an object for more than 512 calls");
        }
        return x;
    }

    int callsLeft() {
        return MOST_CALLS - calls;
    }

    int adds(int o, int p, int k, int n, int t) {
        return next().adds(o, p, k, n, t);
    }

    int moves(int o, int s, int p, int k) {
        return next().moves(o, s, p, k);
    }

    int renames(int o, int s, int v) {
        return next().renames(o, s, v);
    }

    int edits(int o, int s, int v) {
        return next().edits(o, s, v);
    }

    int deletes(int o, int s) {
        return next().deletes(o, s);
    }

    int forks() {
        return next().forks();
    }

    int prefers(int k) {
        return next().prefers(k);
    }

    int adopts() {
        return next().adopts();
    }

    int has(int o, int s) {
        return next().has(o, s);
    }

    int of(int o, int s, int what) {
        return next().of(o, s, what);
    }

    int walk(int o, int i) {
        return next().walk(o, i);
    }

    int size(int o, int what) {
        return next().size(o, what);
    }

    int alike(int a, int b) {
        return next().alike(a, b);
    }

    int conflicts(int i, int what) {
        return next().conflicts(i, what);
    }

    int script(int o, int i, int what) {
        return next().script(o, i, what);
    }

    int matches(int o, int s) {
        return next().matches(o, s);
    }

    int told(int what) {
        return next().told(what);
    }

    int type(int c) {
        return next().type(c);
    }

    int clear() {
        return next().clear();
    }

    int does() {
        return next().does();
    }

    int back() {
        return next().back();
    }

    int refused(int what) {
        return next().refused(what);
    }

    long digest() {
        return next().digest();
    }
}
