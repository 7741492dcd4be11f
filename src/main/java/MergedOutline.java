/** An outline edited by two sides and merged by their origin; README.md tells how to use it. */
public final class MergedOutline {
    public static final int NONE = -1, BAD = -2, NO = -3, FULL = -4;

    private static final int NOT_SO_MANY = -5;
    private static final int FAULT_BASE = -10;
    private static final int ORDER_BASE = -1000;

    private static final int SECTIONS = 16;
    private static final int ROOT = 0;
    private static final int VALUES = 100;
    private static final int STATES = 5;
    private static final int BYTES = 128;

    private static final int BASE = 0;
    private static final int LEFT = 1;
    private static final int RIGHT = 2;
    private static final int MERGED = 3;

    /* The traits of a section bear the numbers by which of() asks for them; HERE is beyond those. */
    private static final int PARENT = 0;
    private static final int PLACE = 1;
    private static final int NAME = 2;
    private static final int TEXT = 3;
    private static final int HERE = 4;
    private static final int TRAITS = 5;

    private static final int NAME_CONFLICT = 0;
    private static final int TEXT_CONFLICT = 1;
    private static final int PARENT_CONFLICT = 2;
    private static final int DELETE_CONFLICT = 3;
    private static final int LOST_PARENT_CONFLICT = 4;
    private static final int RING_CONFLICT = 5;
    private static final int HOMELESS_KEY = 100;

    private static final int ADDED = 1;
    private static final int DELETED = 2;
    private static final int MOVED = 3;
    private static final int RENAMED = 4;
    private static final int RETOLD = 5;

    /* Steps (a) to (e) tell at most 77 conflicts, step (f) at most two for each of 15 sections. */
    private static final int MOST_CONFLICTS = 128;
    private static final int MOST_CHANGES = 3 * SECTIONS;
    private static final int MOST_BYTES = 150;
    private static final int MOST_ORDERS = MOST_BYTES / 2;
    private static final int ORDER_CELLS = 6;
    private static final int MOST_FIGURES = 2;
    private static final int TOP_SCORE = 9;
    private static final int LEAST_SCORE = 3;

    private final Desk desk = new Desk();
    private final Desk before = new Desk();
    private final History history = new History();
    private final Merger merger = new Merger();
    private final Script script = new Script();
    private final Matching matching = new Matching();
    private final Typed typed = new Typed();
    private int badCount = 0;
    private int noCount = 0;
    private int fullCount = 0;

    public MergedOutline() {
    }

    // ---- acts

    public int adds(int o, int p, int k, int n, int t) {
        before.copyFrom(desk);
        return settled(desk.add(o, p, k, n, t));
    }

    public int moves(int o, int s, int p, int k) {
        before.copyFrom(desk);
        return settled(desk.move(o, s, p, k));
    }

    public int renames(int o, int s, int v) {
        before.copyFrom(desk);
        return settled(desk.retell(o, s, NAME, v));
    }

    public int edits(int o, int s, int v) {
        before.copyFrom(desk);
        return settled(desk.retell(o, s, TEXT, v));
    }

    public int deletes(int o, int s) {
        before.copyFrom(desk);
        return settled(desk.delete(o, s));
    }

    public int forks() {
        before.copyFrom(desk);
        return settled(desk.fork());
    }

    public int prefers(int k) {
        before.copyFrom(desk);
        return settled(desk.prefer(k));
    }

    public int adopts() {
        before.copyFrom(desk);
        return settled(desk.adopt(outline(MERGED)));
    }

    // ---- outlines

    public int has(int o, int s) {
        if (!isAnyOutline(o) || !isNumber(s)) {
            return refuse(BAD);
        }
        return outline(o).holds(s) ? 1 : 0;
    }

    public int of(int o, int s, int what) {
        if (!isAnyOutline(o) || what < 0 || what > 5) {
            return refuse(BAD);
        }
        Outline asked = outline(o);
        if (!asked.holds(s)) {
            return refuse(BAD);
        }
        if (what == 4) {
            return asked.childCount(s);
        }
        return what == 5 ? asked.countBelow(s) : asked.trait(s, what);
    }

    public int walk(int o, int i) {
        if (!isAnyOutline(o) || i < 0) {
            return refuse(BAD);
        }
        Outline asked = outline(o);
        int s = i < SECTIONS ? ROOT : NONE;
        for (int step = 0; step < i && step < SECTIONS; step++) {
            s = asked.following(s);
        }
        return s;
    }

    public int size(int o, int what) {
        if (!isAnyOutline(o) || what < 0 || what > 1) {
            return refuse(BAD);
        }
        return what == 0 ? outline(o).count() : outline(o).depth();
    }

    public int alike(int a, int b) {
        if (!isAnyOutline(a) || !isAnyOutline(b)) {
            return refuse(BAD);
        }
        return outline(a).countShared(outline(b));
    }

    // ---- merging

    public int conflicts(int i, int what) {
        if (!isRowAsked(i, what, 3)) {
            return refuse(BAD);
        }
        merger.refresh(desk);
        return merger.conflictRows.answer(i, what);
    }

    public int script(int o, int i, int what) {
        if (!isSide(o) || !isRowAsked(i, what, 2)) {
            return refuse(BAD);
        }
        script.write(desk.outline(BASE), desk.outline(o));
        return script.rows.answer(i, what);
    }

    public int matches(int o, int s) {
        if (!isSide(o) || s == ROOT || !desk.outline(o).holds(s)) {
            return refuse(BAD);
        }
        matching.match(desk.outline(BASE), desk.outline(o));
        return matching.partnerOf(s);
    }

    public int told(int what) {
        if (what < 0 || what > 3) {
            return refuse(BAD);
        }
        return tellDesk(what);
    }

    // ---- texts

    public int type(int c) {
        if (c < 0 || c >= BYTES) {
            return refuse(BAD);
        }
        return typed.append(c) ? typed.length : refuse(FULL);
    }

    public int clear() {
        return typed.wipe();
    }

    public int does() {
        int fault = typed.read();
        if (fault != NONE) {
            return FAULT_BASE - fault;
        }
        before.copyFrom(desk);
        for (int i = 0; i < typed.orderCount && i < MOST_ORDERS; i++) {
            if (perform(i) < 0) {
                desk.copyFrom(before);
                return ORDER_BASE - i;
            }
        }
        return settled(typed.orderCount);
    }

    public int back() {
        if (history.count == 0) {
            return refuse(NO);
        }
        history.takeBack(desk);
        merger.isOld = true;
        return history.count;
    }

    public int refused(int what) {
        if (what < 0 || what > 4) {
            return refuse(BAD);
        }
        return tellCount(what);
    }

    public long digest() {
        long h = 1703;
        for (int what = 0; what <= 4; what++) {
            h = mixed(h, tellCount(what));
        }
        for (int what = 0; what <= 3; what++) {
            h = mixed(h, tellDesk(what));
        }
        for (int o = BASE; o <= MERGED; o++) {
            h = mixedOutline(h, outline(o));
        }
        h = mixedConflicts(h, merger.conflictRows);
        for (int o = LEFT; o <= RIGHT; o++) {
            script.write(desk.outline(BASE), desk.outline(o));
            h = mixed(h, script.rows.count);
        }
        return h;
    }

    /** What an act answers; a negative one refused it, any other leaves the state before it to go back to. */
    private int settled(int answer) {
        if (answer < 0) {
            return refuse(answer);
        }
        history.keep(before);
        merger.isOld = true;
        return answer;
    }

    private int refuse(int why) {
        if (why == BAD) {
            badCount++;
        } else if (why == NO) {
            noCount++;
        } else {
            fullCount++;
        }
        return why;
    }

    private Outline outline(int o) {
        if (o != MERGED) {
            return desk.outline(o);
        }
        merger.refresh(desk);
        return merger.merged;
    }

    private int perform(int i) {
        int a = typed.cell(i, 1);
        int b = typed.cell(i, 2);
        int c = typed.cell(i, 3);
        int d = typed.cell(i, 4);
        switch (typed.cell(i, 0)) {
            case 'a':
                return desk.add(a, b, c, d, typed.cell(i, 5));
            case 'm':
                return desk.move(a, b, c, d);
            case 'r':
                return desk.retell(a, b, NAME, c);
            case 'e':
                return desk.retell(a, b, TEXT, c);
            case 'd':
                return desk.delete(a, b);
            case 'f':
                return desk.fork();
            default:
                return desk.prefer(a);
        }
    }

    private int tellCount(int what) {
        switch (what) {
            case 0:
                return badCount;
            case 1:
                return noCount;
            case 2:
                return fullCount;
            case 3:
                return typed.length;
            default:
                return history.count;
        }
    }

    private int tellDesk(int what) {
        if (what == 0) {
            return desk.preferred;
        }
        if (what == 1) {
            return desk.free;
        }
        matching.match(desk.outline(BASE), desk.outline(what == 2 ? LEFT : RIGHT));
        return matching.countStrangers();
    }

    private static long mixed(long h, int v) {
        return 31 * h + v;
    }

    private static long mixedOutline(long start, Outline outline) {
        int count = outline.count();
        long h = mixed(mixed(start, count), outline.depth());
        int s = ROOT;
        for (int i = 0; i < count && i < SECTIONS; i++) {
            h = mixed(h, s);
            for (int what = PARENT; what <= TEXT; what++) {
                h = mixed(h, outline.trait(s, what));
            }
            s = outline.following(s);
        }
        return h;
    }

    private static long mixedConflicts(long start, Table rows) {
        long h = mixed(start, rows.count);
        for (int i = 0; i < rows.count && i < MOST_CONFLICTS; i++) {
            for (int what = 0; what <= 2; what++) {
                h = mixed(h, rows.answer(i, what));
            }
        }
        return h;
    }

    private static boolean isRowAsked(int i, int what, int columns) {
        return i >= NONE && what >= 0 && what < columns && (i != NONE || what == 0);
    }

    private static boolean isNumber(int s) {
        return s >= 0 && s < SECTIONS;
    }

    private static boolean isValue(int v) {
        return v >= 0 && v < VALUES;
    }

    private static boolean isSide(int o) {
        return o == LEFT || o == RIGHT;
    }

    private static boolean isOwnOutline(int o) {
        return o == BASE || isSide(o);
    }

    private static boolean isAnyOutline(int o) {
        return isOwnOutline(o) || o == MERGED;
    }

    /** A tree of sections. Every number that comes from outside is looked at before it becomes an index. */
    private static final class Outline {
        private final int[] cells = new int[TRAITS * SECTIONS];

        Outline() {
            reset();
        }

        void reset() {
            for (int i = 0; i < TRAITS * SECTIONS; i++) {
                cells[i] = 0;
            }
            put(ROOT, HERE, 1);
            put(ROOT, PARENT, NONE);
        }

        void copyFrom(Outline origin) {
            System.arraycopy(origin.cells, 0, cells, 0, TRAITS * SECTIONS);
        }

        boolean holds(int s) {
            return s >= 0 && s < SECTIONS && cells[HERE * SECTIONS + s] == 1;
        }

        /** NONE for a section that is not here. */
        int trait(int s, int what) {
            if (s < 0 || s >= SECTIONS || what < 0 || what >= TRAITS || cells[HERE * SECTIONS + s] == 0) {
                return NONE;
            }
            return cells[what * SECTIONS + s];
        }

        void put(int s, int what, int v) {
            if (s >= 0 && s < SECTIONS && what >= 0 && what < TRAITS) {
                cells[what * SECTIONS + s] = v;
            }
        }

        void include(int s) {
            put(s, HERE, 1);
        }

        int count() {
            int sum = 0;
            for (int s = 0; s < SECTIONS; s++) {
                sum += holds(s) ? 1 : 0;
            }
            return sum;
        }

        boolean isChild(int s, int p) {
            return s > ROOT && s < SECTIONS && cells[HERE * SECTIONS + s] == 1 && cells[PARENT * SECTIONS + s] == p;
        }

        int childCount(int p) {
            int sum = 0;
            for (int s = 0; s < SECTIONS; s++) {
                sum += isChild(s, p) ? 1 : 0;
            }
            return sum;
        }

        int childAt(int p, int k) {
            for (int s = 0; s < SECTIONS; s++) {
                if (isChild(s, p) && trait(s, PLACE) == k) {
                    return s;
                }
            }
            return NONE;
        }

        /** Ends in a ring, too, for while merging there may be one. */
        boolean isBelow(int s, int top) {
            int q = s;
            for (int step = 0; step < SECTIONS; step++) {
                if (q == top) {
                    return true;
                }
                q = trait(q, PARENT);
            }
            return false;
        }

        int countBelow(int top) {
            int sum = 0;
            for (int s = 0; s < SECTIONS; s++) {
                sum += holds(s) && isBelow(s, top) ? 1 : 0;
            }
            return sum;
        }

        int depth() {
            int deepest = 0;
            for (int s = 0; s < SECTIONS; s++) {
                deepest = Math.max(deepest, depthOf(s));
            }
            return deepest;
        }

        private int depthOf(int s) {
            int steps = 0;
            int q = trait(s, PARENT);
            for (int i = 0; i < SECTIONS && q != NONE; i++) {
                steps++;
                q = trait(q, PARENT);
            }
            return steps;
        }

        /** The section that comes behind s when the outline is walked, NONE behind the last one. */
        int following(int s) {
            int next = childAt(s, 0);
            int q = s;
            for (int step = 0; step < SECTIONS && next == NONE && q != NONE; step++) {
                next = childAt(trait(q, PARENT), trait(q, PLACE) + 1);
                q = trait(q, PARENT);
            }
            return next;
        }

        int countShared(Outline with) {
            int sum = 0;
            for (int s = 0; s < SECTIONS; s++) {
                sum += holds(s) && with.holds(s) && isSame(s, with) ? 1 : 0;
            }
            return sum;
        }

        private boolean isSame(int s, Outline with) {
            for (int what = PARENT; what <= TEXT; what++) {
                if (trait(s, what) != with.trait(s, what)) {
                    return false;
                }
            }
            return true;
        }

        void attach(int s, int p, int k) {
            shift(p, k, 1);
            include(s);
            put(s, PARENT, p);
            put(s, PLACE, k);
        }

        void detach(int s) {
            int p = trait(s, PARENT);
            int k = trait(s, PLACE);
            put(s, PARENT, NONE);
            shift(p, k, -1);
        }

        private void shift(int p, int from, int by) {
            for (int s = 0; s < SECTIONS; s++) {
                if (isChild(s, p) && trait(s, PLACE) >= from) {
                    put(s, PLACE, trait(s, PLACE) + by);
                }
            }
        }

        /** Those that go are found first, for without their parents they would be below nothing. */
        int drop(int top) {
            int going = 0;
            for (int s = 1; s < SECTIONS; s++) {
                going |= holds(s) && isBelow(s, top) ? 1 << s : 0;
            }
            detach(top);
            for (int s = 1; s < SECTIONS; s++) {
                if ((going >> s & 1) == 1) {
                    put(s, HERE, 0);
                }
            }
            return Integer.bitCount(going);
        }
    }

    /** All that back() brings back: the outlines that can be edited, the preferred side, the numbers that are free. */
    private static final class Desk {
        private final Outline base = new Outline();
        private final Outline left = new Outline();
        private final Outline right = new Outline();
        private int preferred = LEFT;
        private int free = 1;

        void copyFrom(Desk origin) {
            base.copyFrom(origin.base);
            left.copyFrom(origin.left);
            right.copyFrom(origin.right);
            preferred = origin.preferred;
            free = origin.free;
        }

        Outline outline(int o) {
            if (o == LEFT) {
                return left;
            }
            return o == RIGHT ? right : base;
        }

        Outline preferredSide() {
            return preferred == RIGHT ? right : left;
        }

        Outline otherSide() {
            return preferred == RIGHT ? left : right;
        }

        int add(int o, int p, int k, int n, int t) {
            if (!isOwnOutline(o) || !isValue(n) || !isValue(t)) {
                return BAD;
            }
            Outline edited = outline(o);
            if (!edited.holds(p) || k < 0 || k > edited.childCount(p)) {
                return BAD;
            }
            if (free >= SECTIONS) {
                return FULL;
            }
            int s = free;
            free++;
            edited.attach(s, p, k);
            edited.put(s, NAME, n);
            edited.put(s, TEXT, t);
            return s;
        }

        int move(int o, int s, int p, int k) {
            if (!isOwnOutline(o) || s == ROOT) {
                return BAD;
            }
            Outline edited = outline(o);
            if (!edited.holds(s) || !edited.holds(p)) {
                return BAD;
            }
            int lastPlace = edited.childCount(p) - (edited.isChild(s, p) ? 1 : 0);
            if (k < 0 || k > lastPlace) {
                return BAD;
            }
            if (edited.isBelow(p, s)) {
                return NO;
            }
            int had = edited.trait(s, PLACE);
            edited.detach(s);
            edited.attach(s, p, k);
            return had;
        }

        int retell(int o, int s, int what, int v) {
            if (!isOwnOutline(o) || !isValue(v)) {
                return BAD;
            }
            Outline edited = outline(o);
            if (!edited.holds(s)) {
                return BAD;
            }
            int had = edited.trait(s, what);
            edited.put(s, what, v);
            return had;
        }

        int delete(int o, int s) {
            if (!isOwnOutline(o) || s == ROOT || !outline(o).holds(s)) {
                return BAD;
            }
            return outline(o).drop(s);
        }

        int fork() {
            left.copyFrom(base);
            right.copyFrom(base);
            return base.count();
        }

        int prefer(int k) {
            if (!isSide(k)) {
                return BAD;
            }
            int had = preferred;
            preferred = k;
            return had;
        }

        int adopt(Outline merged) {
            base.copyFrom(merged);
            return fork();
        }
    }

    /** The last states, the oldest one overwritten when a further one comes. */
    private static final class History {
        private final Desk[] kept = new Desk[STATES];
        private int next = 0;
        private int count = 0;

        History() {
            for (int i = 0; i < STATES; i++) {
                kept[i] = new Desk();
            }
        }

        void keep(Desk desk) {
            Desk slot = slot(next);
            if (slot != null) {
                slot.copyFrom(desk);
            }
            next = next + 1 < STATES ? next + 1 : 0;
            count = Math.min(count + 1, STATES);
        }

        void takeBack(Desk desk) {
            if (count == 0) {
                return;
            }
            next = next > 0 ? next - 1 : STATES - 1;
            count--;
            Desk slot = slot(next);
            if (slot != null) {
                desk.copyFrom(slot);
            }
        }

        private Desk slot(int i) {
            return i >= 0 && i < STATES ? kept[i] : null;
        }
    }

    /** Rows of a kind and up to two sections, made once for the most that can come. */
    private static final class Table {
        private final int[] kinds;
        private final int[] ones;
        private final int[] others;
        private int count = 0;

        Table(int most) {
            int rows = Math.max(most, 0);
            kinds = new int[rows];
            ones = new int[rows];
            others = new int[rows];
        }

        void wipe() {
            count = 0;
        }

        void tell(int kind, int one, int other) {
            if (count >= 0 && count < kinds.length && count < ones.length && count < others.length) {
                kinds[count] = kind;
                ones[count] = one;
                others[count] = other;
                count++;
            }
        }

        /** How many rows, for i NONE; else a cell of the i-th. */
        int answer(int i, int what) {
            if (i == NONE) {
                return count;
            }
            if (i < 0 || i >= count || i >= kinds.length || i >= ones.length || i >= others.length) {
                return NOT_SO_MANY;
            }
            if (what == 0) {
                return kinds[i];
            }
            return what == 1 ? ones[i] : others[i];
        }
    }

    /** MERGED and its conflicts, made by the steps (a) to (g) of the document. */
    private static final class Merger {
        private final Desk desk = new Desk();
        private final Outline merged = new Outline();
        private final Table conflictRows = new Table(MOST_CONFLICTS);
        private final boolean[] putBack = new boolean[SECTIONS];
        private final int[] keys = new int[SECTIONS];
        private boolean isOld = true;

        void refresh(Desk origin) {
            if (!isOld) {
                return;
            }
            isOld = false;
            desk.copyFrom(origin);
            merged.reset();
            conflictRows.wipe();
            chooseSections();
            chooseTraits(NAME, NAME_CONFLICT);
            chooseTraits(TEXT, TEXT_CONFLICT);
            chooseTraits(PARENT, PARENT_CONFLICT);
            rehang();
            undoRings();
            orderChildren();
        }

        private void chooseSections() {
            for (int s = 1; s < SECTIONS; s++) {
                boolean inLeft = desk.left.holds(s);
                boolean inRight = desk.right.holds(s);
                if (!desk.base.holds(s)) {
                    if (inLeft || inRight) {
                        merged.include(s);
                    }
                } else if (inLeft && inRight) {
                    merged.include(s);
                } else if (isChanged(s, desk.left) || isChanged(s, desk.right)) {
                    merged.include(s);
                    conflictRows.tell(DELETE_CONFLICT, s, s);
                }
            }
        }

        private boolean isChanged(int s, Outline side) {
            if (!desk.base.holds(s) || !side.holds(s)) {
                return false;
            }
            return isOther(s, side, NAME) || isOther(s, side, TEXT) || isOther(s, side, PARENT)
                    || hasNewChild(s, side);
        }

        private boolean isOther(int s, Outline side, int what) {
            return side.trait(s, what) != desk.base.trait(s, what);
        }

        private boolean hasNewChild(int p, Outline side) {
            for (int s = 1; s < SECTIONS; s++) {
                if (side.isChild(s, p) && !desk.base.isChild(s, p)) {
                    return true;
                }
            }
            return false;
        }

        private void chooseTraits(int what, int conflict) {
            for (int s = 0; s < SECTIONS; s++) {
                if (!merged.holds(s)) {
                    continue;
                }
                Outline source = sourceOf(s, what);
                merged.put(s, what, source.trait(s, what));
                if (isDisputed(s, what)) {
                    int other = what == PARENT ? desk.otherSide().trait(s, PARENT) : s;
                    conflictRows.tell(conflict, s, other);
                }
            }
        }

        private Outline sourceOf(int s, int what) {
            Outline first = desk.preferredSide();
            Outline second = desk.otherSide();
            if (!first.holds(s)) {
                return second;
            }
            boolean firstIsAsBase = desk.base.holds(s) && !isOther(s, first, what);
            return second.holds(s) && firstIsAsBase ? second : first;
        }

        private boolean isDisputed(int s, int what) {
            Outline first = desk.preferredSide();
            Outline second = desk.otherSide();
            if (!first.holds(s) || !second.holds(s) || first.trait(s, what) == second.trait(s, what)) {
                return false;
            }
            return !desk.base.holds(s) || isOther(s, first, what) && isOther(s, second, what);
        }

        private void rehang() {
            for (int s = 1; s < SECTIONS; s++) {
                int p = merged.trait(s, PARENT);
                if (merged.holds(s) && !merged.holds(p)) {
                    merged.put(s, PARENT, nearest(p));
                    conflictRows.tell(LOST_PARENT_CONFLICT, s, p);
                }
            }
        }

        private int nearest(int p) {
            int q = p;
            for (int step = 0; step < SECTIONS; step++) {
                if (merged.holds(q)) {
                    return q;
                }
                q = desk.base.trait(q, PARENT);
            }
            return ROOT;
        }

        /** Each round puts a section back for the first time or hangs one on the ROOT for good. */
        private void undoRings() {
            for (int s = 0; s < SECTIONS; s++) {
                putBack[s] = false;
            }
            int least = leastInRing();
            for (int round = 0; round < 2 * SECTIONS && least != NONE; round++) {
                int s = leastToPutBack(least);
                if (isNumber(s)) {
                    rehangFromRing(s, nearest(desk.base.trait(s, PARENT)));
                    putBack[s] = true;
                } else {
                    rehangFromRing(least, ROOT);
                }
                least = leastInRing();
            }
        }

        private int leastInRing() {
            for (int s = 1; s < SECTIONS; s++) {
                if (merged.holds(s) && merged.isBelow(merged.trait(s, PARENT), s)) {
                    return s;
                }
            }
            return NONE;
        }

        private void rehangFromRing(int s, int p) {
            conflictRows.tell(RING_CONFLICT, s, merged.trait(s, PARENT));
            merged.put(s, PARENT, p);
        }

        private int leastToPutBack(int inRing) {
            for (int s = 1; s < SECTIONS; s++) {
                if (merged.isBelow(inRing, s) && !putBack[s] && isMoveOfOther(s)) {
                    return s;
                }
            }
            return NONE;
        }

        private boolean isMoveOfOther(int s) {
            Outline other = desk.otherSide();
            if (!desk.base.holds(s) || !other.holds(s)) {
                return false;
            }
            int now = merged.trait(s, PARENT);
            return now == other.trait(s, PARENT) && now != desk.base.trait(s, PARENT);
        }

        private void orderChildren() {
            for (int s = 1; s < SECTIONS; s++) {
                keys[s] = keyOf(s);
            }
            for (int s = 1; s < SECTIONS; s++) {
                if (merged.holds(s)) {
                    merged.put(s, PLACE, countAhead(s));
                }
            }
        }

        private int keyOf(int s) {
            int p = merged.trait(s, PARENT);
            Outline first = desk.preferredSide();
            if (first.isChild(s, p)) {
                return 2 * first.trait(s, PLACE);
            }
            Outline second = desk.otherSide();
            return second.isChild(s, p) ? 2 * second.trait(s, PLACE) + 1 : HOMELESS_KEY;
        }

        private int countAhead(int s) {
            int sum = 0;
            int p = merged.trait(s, PARENT);
            for (int q = 1; q < SECTIONS; q++) {
                sum += merged.isChild(q, p) && isAhead(q, s) ? 1 : 0;
            }
            return sum;
        }

        private boolean isAhead(int q, int s) {
            if (!isNumber(q) || !isNumber(s)) {
                return false;
            }
            return keys[q] < keys[s] || keys[q] == keys[s] && q < s;
        }
    }

    /** What a side did to BASE. */
    private static final class Script {
        private final Table rows = new Table(MOST_CHANGES);

        void write(Outline base, Outline side) {
            rows.wipe();
            for (int s = 0; s < SECTIONS; s++) {
                if (base.holds(s) && side.holds(s)) {
                    writeChange(base, side, s, PARENT, MOVED);
                    writeChange(base, side, s, NAME, RENAMED);
                    writeChange(base, side, s, TEXT, RETOLD);
                } else if (side.holds(s)) {
                    rows.tell(ADDED, s, NONE);
                } else if (base.holds(s)) {
                    rows.tell(DELETED, s, NONE);
                }
            }
        }

        private void writeChange(Outline base, Outline side, int s, int what, int kind) {
            if (side.trait(s, what) != base.trait(s, what)) {
                rows.tell(kind, s, NONE);
            }
        }
    }

    /** Which sections of BASE and of a side are like one another, whatever their numbers. */
    private static final class Matching {
        private final int[] scores = new int[SECTIONS * SECTIONS];
        private final int[] partners = new int[SECTIONS];
        /* Of the sections of BASE; one that is not there can not be paired, either. */
        private final boolean[] taken = new boolean[SECTIONS];

        void match(Outline base, Outline side) {
            for (int s = 0; s < SECTIONS; s++) {
                partners[s] = NONE;
                taken[s] = !base.holds(s);
            }
            for (int b = 1; b < SECTIONS; b++) {
                for (int s = 1; s < SECTIONS && !taken[b]; s++) {
                    scores[b * SECTIONS + s] = score(base, b, side, s);
                }
            }
            for (int score = TOP_SCORE; score >= LEAST_SCORE; score--) {
                pairAll(score);
            }
        }

        private static int score(Outline base, int b, Outline side, int s) {
            if (!side.holds(s)) {
                return 0;
            }
            int sum = base.trait(b, NAME) == side.trait(s, NAME) ? 4 : 0;
            sum += base.trait(b, TEXT) == side.trait(s, TEXT) ? 2 : 0;
            int baseParent = base.trait(b, PARENT);
            int sideParent = side.trait(s, PARENT);
            sum += base.trait(baseParent, NAME) == side.trait(sideParent, NAME) ? 2 : 0;
            return sum + (base.trait(b, PLACE) == side.trait(s, PLACE) ? 1 : 0);
        }

        private void pairAll(int score) {
            for (int b = 1; b < SECTIONS; b++) {
                for (int s = 1; s < SECTIONS && !taken[b]; s++) {
                    if (scores[b * SECTIONS + s] == score && partners[s] == NONE) {
                        taken[b] = true;
                        partners[s] = b;
                    }
                }
            }
        }

        int partnerOf(int s) {
            return isNumber(s) ? partners[s] : NONE;
        }

        int countStrangers() {
            int sum = 0;
            for (int s = 1; s < SECTIONS; s++) {
                sum += partners[s] != NONE && partners[s] != s ? 1 : 0;
            }
            return sum;
        }
    }

    /** THE TEXT and the orders that it was read as. */
    private static final class Typed {
        private final int[] bytes = new int[MOST_BYTES];
        private final int[] orders = new int[MOST_ORDERS * ORDER_CELLS];
        private int length = 0;
        private int orderCount = 0;
        private boolean isOpen = false;
        private int wanted = 0;
        private int given = 0;
        private int figures = 0;

        boolean append(int c) {
            if (length < 0 || length >= MOST_BYTES) {
                return false;
            }
            bytes[length] = c;
            length++;
            return true;
        }

        int wipe() {
            int had = length;
            length = 0;
            return had;
        }

        /** The place of the fault, NONE if there is none; then the orders are to be had. */
        int read() {
            orderCount = 0;
            isOpen = false;
            figures = 0;
            for (int i = 0; i < length && i < MOST_BYTES; i++) {
                if (!takes(bytes[i])) {
                    return i;
                }
            }
            return isOpen || orderCount == 0 ? length : NONE;
        }

        private boolean takes(int c) {
            if (c == ' ') {
                figures = 0;
                return true;
            }
            if (!isOpen) {
                return opens(c);
            }
            if (c >= '0' && c <= '9') {
                return takesFigure(c - '0');
            }
            return c == ';' && closes();
        }

        private boolean opens(int c) {
            int numbers = numbersOf(c);
            if (numbers == NONE) {
                return false;
            }
            isOpen = true;
            wanted = numbers;
            given = 0;
            put(orderCount, 0, c);
            return true;
        }

        private static int numbersOf(int c) {
            switch (c) {
                case 'a':
                    return 5;
                case 'm':
                    return 4;
                case 'r':
                case 'e':
                    return 3;
                case 'd':
                    return 2;
                case 'p':
                    return 1;
                case 'f':
                    return 0;
                default:
                    return NONE;
            }
        }

        private boolean takesFigure(int figure) {
            if (figures == 0) {
                if (given == wanted) {
                    return false;
                }
                given++;
                put(orderCount, given, 0);
            }
            if (figures == MOST_FIGURES) {
                return false;
            }
            figures++;
            put(orderCount, given, 10 * cell(orderCount, given) + figure);
            return true;
        }

        private boolean closes() {
            if (given != wanted) {
                return false;
            }
            isOpen = false;
            figures = 0;
            orderCount++;
            return true;
        }

        private void put(int order, int column, int v) {
            if (isCell(order, column)) {
                orders[order * ORDER_CELLS + column] = v;
            }
        }

        /** The letter of an order in column 0, its numbers behind it; what an order has not is of no use. */
        int cell(int order, int column) {
            return isCell(order, column) ? orders[order * ORDER_CELLS + column] : NONE;
        }

        private static boolean isCell(int order, int column) {
            return order >= 0 && order < MOST_ORDERS && column >= 0 && column < ORDER_CELLS;
        }
    }
}
