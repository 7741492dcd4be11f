/** Each promise of the document by itself: ordinary inputs, the edges that it names, wrong inputs. */
public final class PromiseTest extends Checks {
    public static void main(String[] args) {
        aNewObject();
        adds();
        moves();
        renames();
        edits();
        deletes();
        forks();
        prefers();
        adopts();
        has();
        of();
        walk();
        size();
        alike();
        conflictsAsked();
        mergedSections();
        mergedTraits();
        mergedBesideBase();
        mergedLostParents();
        mergedRings();
        mergedRingsInTurn();
        mergedPlaces();
        script();
        matches();
        told();
        type();
        clear();
        does();
        doesFaults();
        back();
        backOverEach();
        refused();
        digest();
        end("PromiseTest");
    }

    private static void aNewObject() {
        at = "promise 1";
        Used x = new Used();
        for (int o = 0; o < 4; o++) {
            due("size", x.size(o, 0), 1);
            due("depth", x.size(o, 1), 0);
            due("the ROOT's PARENT", x.of(o, 0, 0), NONE);
            due("the ROOT's place", x.of(o, 0, 1), 0);
            due("the ROOT's NAME", x.of(o, 0, 2), 0);
            due("the ROOT's TEXT", x.of(o, 0, 3), 0);
            for (int s = 1; s < 16; s++) {
                due("has", x.has(o, s), 0);
            }
        }
        due("preferred", x.told(0), 1);
        due("free", x.told(1), 1);
        for (int what = 0; what < 5; what++) {
            due("refused", x.refused(what), 0);
        }
        due("conflicts", x.conflicts(NONE, 0), 0);
        due("script", x.script(1, NONE, 0), 0);
        due("script", x.script(2, NONE, 0), 0);
        Used y = new Used();
        x.adds(0, 0, 0, 1, 1);
        due("another object", y.size(0, 0), 1);
    }

    private static void adds() {
        at = "promise 2";
        Used x = new Used();
        due("the first", x.adds(0, 0, 0, 7, 8), 1);
        due("in another outline", x.adds(1, 0, 0, 99, 0), 2);
        due("in the third one", x.adds(2, 0, 0, 0, 99), 3);
        due("ahead of 1", x.adds(0, 0, 0, 1, 1), 4);
        due("behind 1", x.adds(0, 0, 2, 1, 1), 5);
        due("between 4 and 1", x.adds(0, 0, 1, 1, 1), 6);
        due("on 1", x.adds(0, 1, 0, 1, 1), 7);
        walks("places", x, 0, "0:-1 4:0 6:0 1:0 7:1 5:0");
        due("NAME", x.of(0, 1, 2), 7);
        due("TEXT", x.of(0, 1, 3), 8);
        due("place", x.of(0, 1, 1), 2);
        due("place", x.of(0, 5, 1), 3);
        due("NAME 99", x.of(1, 2, 2), 99);
        due("TEXT 99", x.of(2, 3, 3), 99);
        due("not in another", x.has(0, 2), 0);
        due("o", x.adds(-1, 0, 0, 1, 1), BAD);
        due("o is MERGED", x.adds(3, 0, 0, 1, 1), BAD);
        due("p of another outline", x.adds(0, 2, 0, 1, 1), BAD);
        due("p", x.adds(0, -1, 0, 1, 1), BAD);
        due("p", x.adds(0, 16, 0, 1, 1), BAD);
        due("p", x.adds(0, LEAST, 0, 1, 1), BAD);
        due("k", x.adds(0, 0, -1, 1, 1), BAD);
        due("k", x.adds(0, 0, 5, 1, 1), BAD);
        due("k", x.adds(0, 0, MOST, 1, 1), BAD);
        due("n", x.adds(0, 0, 0, -1, 1), BAD);
        due("n", x.adds(0, 0, 0, 100, 1), BAD);
        due("t", x.adds(0, 0, 0, 1, -1), BAD);
        due("t", x.adds(0, 0, 0, 1, 100), BAD);
        due("free, still", x.told(1), 8);
        due("states", x.refused(4), 5);
        due("deleted", x.deletes(1, 2), 1);
        due("a number that was had once is not free", x.adds(1, 0, 0, 1, 1), 8);
        for (int s = 9; s < 16; s++) {
            due("more", x.adds(s % 3, 0, 0, s, s), s);
        }
        due("none is free", x.adds(0, 0, 0, 1, 1), FULL);
        due("BAD ahead of FULL", x.adds(0, 0, 0, 100, 1), BAD);
        due("deleted", x.deletes(0, 15), 1);
        due("none is free, still", x.adds(0, 0, 0, 1, 1), FULL);
        due("FULL counted", x.refused(2), 2);
        due("back behind the deleting", x.back(), 4);
        due("back behind the adding of 15", x.back(), 3);
        due("back behind the adding of 14", x.back(), 2);
        due("free again", x.adds(2, 0, 0, 1, 1), 14);
        due("free again", x.adds(2, 0, 0, 1, 1), 15);
    }

    private static void moves() {
        at = "promise 3";
        Used x = after("a0 0 0 1 1;a0 0 1 2 2;a0 0 2 3 3;a0 0 3 4 4;a0 2 0 5 5;a0 5 0 6 6;");
        walks("at first", x, 0, "0:-1 1:0 2:0 5:2 6:5 3:0 4:0");
        due("to the end", x.moves(0, 1, 0, 3), 0);
        walks("moved to the end", x, 0, "0:-1 2:0 5:2 6:5 3:0 4:0 1:0");
        due("from the end to the front", x.moves(0, 1, 0, 0), 3);
        walks("moved to the front", x, 0, "0:-1 1:0 2:0 5:2 6:5 3:0 4:0");
        due("where it is", x.moves(0, 3, 0, 2), 2);
        walks("moved where it is", x, 0, "0:-1 1:0 2:0 5:2 6:5 3:0 4:0");
        due("with all below", x.moves(0, 2, 4, 0), 1);
        walks("moved with all below", x, 0, "0:-1 1:0 3:0 4:0 2:4 5:2 6:5");
        due("those behind are one nearer", x.of(0, 4, 1), 2);
        due("its new place", x.of(0, 2, 1), 0);
        due("behind another", x.moves(0, 1, 4, 1), 0);
        due("ahead of that", x.moves(0, 3, 4, 1), 0);
        walks("moved between", x, 0, "0:-1 4:0 2:4 5:2 6:5 3:4 1:4");
        due("to itself", x.moves(0, 4, 4, 0), NO);
        due("to a child", x.moves(0, 4, 2, 1), NO);
        due("far below", x.moves(0, 4, 6, 0), NO);
        due("BAD ahead of NO: k", x.moves(0, 4, 6, 1), BAD);
        due("BAD ahead of NO: k to itself", x.moves(0, 4, 4, 4), BAD);
        due("NO: k to itself, three children", x.moves(0, 4, 4, 3), NO);
        due("the ROOT", x.moves(0, 0, 4, 0), BAD);
        due("o", x.moves(3, 1, 0, 0), BAD);
        due("o", x.moves(-1, 1, 0, 0), BAD);
        due("s is not there", x.moves(1, 1, 0, 0), BAD);
        due("s", x.moves(0, 7, 0, 0), BAD);
        due("s", x.moves(0, -1, 0, 0), BAD);
        due("s", x.moves(0, 16, 0, 0), BAD);
        due("p", x.moves(0, 1, 7, 0), BAD);
        due("p", x.moves(0, 1, MOST, 0), BAD);
        due("k", x.moves(0, 1, 0, -1), BAD);
        due("k beyond those of another", x.moves(0, 1, 0, 2), BAD);
        due("k beyond those that are left", x.moves(0, 1, 4, 3), BAD);
        due("k, the last one", x.moves(0, 1, 0, 1), 2);
        due("counted", x.refused(1), 4);
        due("counted", x.refused(0), 14);
        walks("at the end", x, 0, "0:-1 4:0 2:4 5:2 6:5 3:4 1:0");
    }

    private static void renames() {
        at = "promise 4";
        Used x = after("a0 0 0 10 20;f;");
        due("what it was", x.renames(0, 1, 11), 10);
        due("what it was", x.renames(0, 1, 99), 11);
        due("NAME", x.of(0, 1, 2), 99);
        due("TEXT, as it was", x.of(0, 1, 3), 20);
        due("in LEFT, as it was", x.of(1, 1, 2), 10);
        due("the ROOT", x.renames(2, 0, 5), 0);
        due("the ROOT again", x.renames(2, 0, 0), 5);
        due("states", x.refused(4), 5);
        due("o", x.renames(3, 1, 0), BAD);
        due("o", x.renames(-1, 1, 0), BAD);
        due("s", x.renames(0, 2, 0), BAD);
        due("s", x.renames(0, -1, 0), BAD);
        due("s", x.renames(0, 16, 0), BAD);
        due("v", x.renames(0, 1, -1), BAD);
        due("v", x.renames(0, 1, 100), BAD);
        due("as it was", x.of(0, 1, 2), 99);
        due("counted", x.refused(0), 7);
    }

    private static void edits() {
        at = "promise 5";
        Used x = after("a0 0 0 10 20;f;");
        due("what it was", x.edits(1, 1, 21), 20);
        due("what it was", x.edits(1, 1, 0), 21);
        due("TEXT", x.of(1, 1, 3), 0);
        due("NAME, as it was", x.of(1, 1, 2), 10);
        due("in BASE, as it was", x.of(0, 1, 3), 20);
        due("the ROOT", x.edits(0, 0, 99), 0);
        due("the ROOT again", x.edits(0, 0, 98), 99);
        due("states", x.refused(4), 5);
        due("o", x.edits(3, 1, 0), BAD);
        due("o", x.edits(LEAST, 1, 0), BAD);
        due("s", x.edits(0, 2, 0), BAD);
        due("s", x.edits(0, -1, 0), BAD);
        due("s", x.edits(0, 16, 0), BAD);
        due("v", x.edits(0, 1, -1), BAD);
        due("v", x.edits(0, 1, 100), BAD);
        due("as it was", x.of(0, 1, 3), 20);
        due("counted", x.refused(0), 7);
    }

    private static void deletes() {
        at = "promise 6";
        Used x = after("a0 0 0 1 1;a0 0 1 2 2;a0 0 2 3 3;a0 2 0 4 4;a0 4 0 5 5;a0 2 1 6 6;f;");
        due("all below", x.deletes(0, 2), 4);
        walks("what is left", x, 0, "0:-1 1:0 3:0");
        due("those behind are one nearer", x.of(0, 3, 1), 1);
        walks("LEFT as it was", x, 1, "0:-1 1:0 2:0 4:2 5:4 6:2 3:0");
        due("one", x.deletes(1, 5), 1);
        due("a child with none", x.deletes(1, 4), 1);
        due("the next one is nearer", x.of(1, 6, 1), 0);
        due("states", x.refused(4), 4);
        due("the ROOT", x.deletes(0, 0), BAD);
        due("gone", x.deletes(0, 2), BAD);
        due("o", x.deletes(3, 1), BAD);
        due("o", x.deletes(-1, 1), BAD);
        due("s", x.deletes(0, -1), BAD);
        due("s", x.deletes(0, 16), BAD);
        due("counted", x.refused(0), 6);
        due("the numbers are not free", x.told(1), 7);
    }

    private static void forks() {
        at = "promise 7";
        Used x = after("a0 0 0 1 2;a0 1 0 3 4;a1 0 0 5 6;a2 0 0 7 8;r0 0 9;e0 0 8;r1 0 1;");
        due("how many", x.forks(), 3);
        due("LEFT as BASE", x.alike(0, 1), 3);
        due("RIGHT as BASE", x.alike(0, 2), 3);
        due("LEFT has no more", x.size(1, 0), 3);
        due("RIGHT has no more", x.size(2, 0), 3);
        due("the ROOT's NAME", x.of(2, 0, 2), 9);
        due("numbers are not free by it", x.told(1), 5);
        due("again, a state too", x.forks(), 3);
        due("states", x.refused(4), 3);
        due("a twin of its own", x.renames(1, 1, 50), 1);
        due("BASE is not touched", x.of(0, 1, 2), 1);
        due("RIGHT is not touched", x.of(2, 1, 2), 1);
        due("back", x.back(), 3);
        due("back", x.back(), 2);
        due("back", x.back(), 1);
        due("LEFT as it was", x.has(1, 3), 1);
        due("RIGHT as it was", x.has(2, 4), 1);
    }

    private static void prefers() {
        at = "promise 8";
        Used x = after("a0 0 0 1 1;f;r1 1 2;r2 1 3;");
        due("LEFT at first", x.of(3, 1, 2), 2);
        due("which was", x.prefers(2), 1);
        due("RIGHT now", x.of(3, 1, 2), 3);
        due("told", x.told(0), 2);
        due("again", x.prefers(2), 2);
        due("states", x.refused(4), 3);
        due("k", x.prefers(0), BAD);
        due("k", x.prefers(3), BAD);
        due("k", x.prefers(-1), BAD);
        due("as it was", x.told(0), 2);
        due("back to 1", x.prefers(1), 2);
        due("LEFT again", x.of(3, 1, 2), 2);
        due("taken back", x.back(), 3);
        due("told", x.told(0), 2);
        due("MERGED is taken back, too", x.of(3, 1, 2), 3);
    }

    private static void adopts() {
        at = "promise 9";
        Used x = after("a0 0 0 1 1;a0 0 1 2 2;f;r1 1 5;r2 2 6;a1 1 0 7 7;d2 1;p2;");
        due("conflicts ahead of it", x.conflicts(NONE, 0), 1);
        due("how many", x.adopts(), 4);
        for (int o = 0; o < 3; o++) {
            walks("adopted", x, o, "0:-1 2:0 1:0 3:1");
            due("NAME", x.of(o, 1, 2), 5);
            due("NAME", x.of(o, 2, 2), 6);
            due("alike", x.alike(o, 3), 4);
        }
        due("no conflicts any more", x.conflicts(NONE, 0), 0);
        due("preferred, still", x.told(0), 2);
        due("free, still", x.told(1), 4);
        due("states", x.refused(4), 2);
        due("back", x.back(), 1);
        due("the conflict is back", x.conflicts(NONE, 0), 1);
        due("RIGHT is back", x.has(2, 1), 0);
    }

    private static void has() {
        at = "promise 10";
        Used x = after("a0 0 0 1 1;a1 0 0 2 2;");
        due("in BASE", x.has(0, 1), 1);
        due("not in BASE", x.has(0, 2), 0);
        due("in LEFT", x.has(1, 2), 1);
        due("not in RIGHT", x.has(2, 2), 0);
        due("not in MERGED", x.has(3, 1), 0);
        due("in MERGED", x.has(3, 2), 1);
        due("the ROOT", x.has(3, 0), 1);
        due("15", x.has(0, 15), 0);
        due("o", x.has(-1, 0), BAD);
        due("o", x.has(4, 0), BAD);
        due("s", x.has(0, -1), BAD);
        due("s", x.has(0, 16), BAD);
        due("counted", x.refused(0), 4);
        due("no state", x.refused(4), 1);
    }

    private static void of() {
        at = "promise 11";
        Used x = after("a0 0 0 11 12;a0 0 1 21 22;a0 2 0 31 32;a0 2 1 41 42;a0 4 0 51 52;f;");
        due("PARENT", x.of(0, 4, 0), 2);
        due("place", x.of(0, 4, 1), 1);
        due("NAME", x.of(0, 4, 2), 41);
        due("TEXT", x.of(0, 4, 3), 42);
        due("children", x.of(0, 2, 4), 2);
        due("below", x.of(0, 2, 5), 4);
        due("PARENT in MERGED", x.of(3, 5, 0), 4);
        due("below the ROOT of MERGED", x.of(3, 0, 5), 6);
        due("children of the ROOT", x.of(3, 0, 4), 2);
        due("no children", x.of(0, 1, 4), 0);
        due("below a leaf", x.of(0, 1, 5), 1);
        due("the ROOT's PARENT", x.of(2, 0, 0), NONE);
        due("the ROOT's place", x.of(2, 0, 1), 0);
        due("o", x.of(-1, 0, 0), BAD);
        due("o", x.of(4, 0, 0), BAD);
        due("s", x.of(0, -1, 0), BAD);
        due("s", x.of(0, 16, 0), BAD);
        due("s is not there", x.of(0, 6, 4), BAD);
        due("s is not there", x.of(3, 6, 5), BAD);
        due("what", x.of(0, 0, -1), BAD);
        due("what", x.of(0, 0, 6), BAD);
        due("counted", x.refused(0), 8);
    }

    private static void walk() {
        at = "promise 12";
        Used x = after("a0 0 0 1 1;a0 1 0 2 2;a0 2 0 3 3;a0 0 1 4 4;a0 1 0 5 5;a0 4 0 6 6;a0 4 1 7 7;");
        int[] order = {0, 1, 5, 2, 3, 4, 6, 7};
        for (int i = 0; i < order.length; i++) {
            due("the " + i + "-th", x.walk(0, i), order[i]);
        }
        due("not so many", x.walk(0, 8), NONE);
        due("not so many", x.walk(0, 15), NONE);
        due("not so many", x.walk(0, 16), NONE);
        due("not so many", x.walk(0, MOST), NONE);
        due("the ROOT alone", x.walk(1, 0), 0);
        due("the ROOT alone", x.walk(1, 1), NONE);
        due("i", x.walk(0, -1), BAD);
        due("i", x.walk(0, LEAST), BAD);
        due("o", x.walk(4, 0), BAD);
        due("o", x.walk(-1, 0), BAD);
        due("counted", x.refused(0), 4);
        Used chain = new Used();
        for (int s = 1; s < 16; s++) {
            chain.adds(0, s - 1, 0, s, s);
        }
        due("the last of a chain", chain.walk(0, 15), 15);
        due("behind a chain", chain.walk(0, 16), NONE);
    }

    private static void size() {
        at = "promise 13";
        Used x = after("a0 0 0 1 1;a0 1 0 2 2;a0 0 0 3 3;a1 0 0 4 4;");
        due("BASE", x.size(0, 0), 4);
        due("how deep", x.size(0, 1), 2);
        due("LEFT", x.size(1, 0), 2);
        due("how deep", x.size(1, 1), 1);
        due("RIGHT", x.size(2, 0), 1);
        due("how deep", x.size(2, 1), 0);
        due("MERGED", x.size(3, 0), 2);
        due("how deep", x.size(3, 1), 1);
        due("o", x.size(-1, 0), BAD);
        due("o", x.size(4, 0), BAD);
        due("what", x.size(0, -1), BAD);
        due("what", x.size(0, 2), BAD);
        due("counted", x.refused(0), 4);
        Used chain = new Used();
        for (int s = 1; s < 16; s++) {
            chain.adds(2, s - 1, 0, s, s);
        }
        due("the deepest", chain.size(2, 1), 15);
        due("the deepest, merged", chain.size(3, 1), 15);
        due("all of them", chain.size(3, 0), 16);
    }

    private static void alike() {
        at = "promise 14";
        Used x = after("a0 0 0 1 1;a0 0 1 2 2;a0 0 2 3 3;f;");
        due("all", x.alike(0, 1), 4);
        due("all", x.alike(3, 3), 4);
        x.renames(1, 1, 9);
        due("a NAME", x.alike(0, 1), 3);
        x.edits(1, 1, 9);
        due("a TEXT of the same one", x.alike(1, 0), 3);
        x.edits(1, 0, 9);
        due("the ROOT", x.alike(0, 1), 2);
        x.moves(2, 1, 0, 2);
        due("places", x.alike(0, 2), 1);
        x.moves(2, 3, 2, 0);
        due("a PARENT", x.alike(0, 2), 1);
        x.deletes(2, 3);
        due("one that is gone", x.alike(2, 0), 1);
        x.moves(2, 1, 0, 0);
        due("places again", x.alike(2, 0), 3);
        due("a", x.alike(-1, 0), BAD);
        due("a", x.alike(4, 0), BAD);
        due("b", x.alike(0, -1), BAD);
        due("b", x.alike(0, 4), BAD);
        due("counted", x.refused(0), 4);
        Used y = after("a0 0 0 1 1;a0 1 0 2 2;a0 0 1 3 3;f;m1 2 3 0;");
        due("a PARENT alone, the place alike", y.alike(0, 1), 3);
    }

    private static void conflictsAsked() {
        at = "promise 15";
        Used x = after("a0 0 0 1 1;f;r1 1 2;r2 1 3;e1 1 4;e2 1 5;");
        told("NAME and TEXT", x, "0 1 1, 1 1 1");
        due("not so many", x.conflicts(2, 0), NOT_SO_MANY);
        due("not so many", x.conflicts(2, 2), NOT_SO_MANY);
        due("not so many", x.conflicts(MOST, 1), NOT_SO_MANY);
        due("i", x.conflicts(-2, 0), BAD);
        due("i", x.conflicts(LEAST, 0), BAD);
        due("what", x.conflicts(0, -1), BAD);
        due("what", x.conflicts(0, 3), BAD);
        due("what, behind the last", x.conflicts(9, 3), BAD);
        due("i NONE, what 1", x.conflicts(NONE, 1), BAD);
        due("i NONE, what 2", x.conflicts(NONE, 2), BAD);
        due("counted", x.refused(0), 7);
        due("no state", x.refused(4), 1);
    }

    /** Step (a). */
    private static void mergedSections() {
        at = "promise 15";
        String three = "a0 0 0 1 1;a0 0 1 2 2;a0 0 2 3 3;f;";
        Used x = after(three, "d1 1;");
        due("deleted by one, not CHANGED", x.has(3, 1), 0);
        told("no conflict", x, "");
        run(x, "r2 1 9;");
        told("renamed by the other", x, "3 1 1");
        due("its NAME", x.of(3, 1, 2), 9);
        run(x, "r2 1 1;");
        told("renamed back", x, "");
        run(x, "e2 1 9;");
        told("another TEXT", x, "3 1 1");
        due("its TEXT", x.of(3, 1, 3), 9);
        run(x, "e2 1 1;m2 1 2 0;");
        told("another PARENT", x, "3 1 1");
        due("its PARENT", x.of(3, 1, 0), 2);
        run(x, "m2 1 0 2;");
        told("another place alone", x, "");
        due("gone", x.has(3, 1), 0);
        run(x, "a2 1 0 5 5;");
        told("a new child", x, "3 1 1");
        run(x, "d2 4;m2 3 1 0;");
        told("a child that hung elsewhere", x, "3 1 1");
        run(x, "d2 3;");
        told("a child that went again", x, "");
        due("3 is in LEFT alone, not CHANGED", x.has(3, 3), 0);
        x = after(three, "d1 2;m2 1 2 0;");
        told("a child that hung elsewhere, the lesser one", x, "3 2 2");
        x = after(three, "d1 1;d2 1;");
        due("deleted by both", x.has(3, 1), 0);
        told("no conflict", x, "");
        x = after("a0 0 0 1 1;a0 1 0 2 2;f;d1 1;d2 2;");
        due("a child deleted is no change", x.has(3, 1), 0);
        x = after(three, "d1 3;e2 3 7;d2 1;e1 1 7;p2;");
        told("by rising numbers", x, "3 1 1, 3 3 3");
        x = after("a1 0 0 1 1;a2 0 0 2 2;");
        due("added by LEFT", x.has(3, 1), 1);
        due("added by RIGHT", x.has(3, 2), 1);
        x = after("a0 0 0 1 1;");
        due("in BASE alone", x.has(3, 1), 0);
    }

    /** Steps (b) to (d). */
    private static void mergedTraits() {
        at = "promise 15";
        Used x = after("a0 0 0 1 1;a0 0 1 2 2;a0 0 2 3 3;f;", "r1 1 10;e1 2 20;m1 3 1 0;");
        due("LEFT's NAME", x.of(3, 1, 2), 10);
        due("LEFT's TEXT", x.of(3, 2, 3), 20);
        due("LEFT's PARENT", x.of(3, 3, 0), 1);
        told("LEFT alone", x, "");
        run(x, "p2;");
        due("LEFT's NAME, RIGHT being preferred", x.of(3, 1, 2), 10);
        due("LEFT's TEXT, RIGHT being preferred", x.of(3, 2, 3), 20);
        due("LEFT's PARENT, RIGHT being preferred", x.of(3, 3, 0), 1);
        run(x, "r2 1 10;e2 2 20;m2 3 1 0;");
        told("both alike", x, "");
        due("alike", x.of(3, 1, 2), 10);
        run(x, "r2 1 11;e2 2 21;m2 3 2 0;r1 0 5;r2 0 6;e1 0 7;e2 0 8;");
        told("both otherwise", x, "0 0 0, 0 1 1, 1 0 0, 1 2 2, 2 3 1");
        due("RIGHT's NAME", x.of(3, 1, 2), 11);
        due("RIGHT's TEXT", x.of(3, 2, 3), 21);
        due("RIGHT's PARENT", x.of(3, 3, 0), 2);
        due("the ROOT's NAME", x.of(3, 0, 2), 6);
        due("the ROOT's TEXT", x.of(3, 0, 3), 8);
        run(x, "p1;");
        told("both otherwise, LEFT preferred", x, "0 0 0, 0 1 1, 1 0 0, 1 2 2, 2 3 2");
        due("LEFT's NAME", x.of(3, 1, 2), 10);
        due("LEFT's TEXT", x.of(3, 2, 3), 20);
        due("LEFT's PARENT", x.of(3, 3, 0), 1);
        run(x, "r1 1 1;");
        told("LEFT as in BASE again", x, "0 0 0, 1 0 0, 1 2 2, 2 3 2");
        due("RIGHT's NAME", x.of(3, 1, 2), 11);
    }

    /** Sections that both sides have and BASE has not. */
    private static void mergedBesideBase() {
        at = "promise 15";
        Used x = after("a0 0 0 1 1;a0 0 1 2 2;a0 0 2 3 3;f;d0 1;d0 2;d0 3;");
        told("alike in both", x, "");
        walks("alike in both", x, 3, "0:-1 1:0 2:0 3:0");
        run(x, "r1 1 0;e2 2 0;m2 3 1 0;");
        told("otherwise in one", x, "0 1 1, 1 2 2, 2 3 1");
        due("NAME as preferred", x.of(3, 1, 2), 0);
        due("TEXT as preferred", x.of(3, 2, 3), 2);
        due("PARENT as preferred", x.of(3, 3, 0), 0);
        run(x, "p2;");
        told("otherwise in one, RIGHT preferred", x, "0 1 1, 1 2 2, 2 3 0");
        due("NAME as preferred", x.of(3, 1, 2), 1);
        due("TEXT as preferred", x.of(3, 2, 3), 0);
        due("PARENT as preferred", x.of(3, 3, 0), 1);
    }

    /** Step (e). */
    private static void mergedLostParents() {
        at = "promise 15";
        Used x = after("a0 0 0 1 1;a0 1 0 2 2;a0 2 0 3 3;a0 3 0 4 4;f;", "d1 2;e2 4 9;");
        told("the grandparent", x, "3 4 4, 4 4 3");
        walks("hangs on 1", x, 3, "0:-1 1:0 4:1");
        run(x, "e2 3 9;");
        told("both are kept", x, "3 3 3, 3 4 4, 4 3 2");
        walks("3 hangs on 1", x, 3, "0:-1 1:0 3:1 4:3");
        x = after("a0 0 0 1 1;a0 1 0 2 2;a0 1 1 3 3;f;", "d1 1;e2 2 9;e2 3 9;");
        told("two on the ROOT", x, "3 2 2, 3 3 3, 4 2 1, 4 3 1");
        walks("two on the ROOT", x, 3, "0:-1 2:0 3:0");
        x = after("a0 0 0 1 1;a0 1 0 2 2;a0 2 0 3 3;a0 0 1 4 4;f;", "m0 2 4 0;m1 3 0 0;d1 1;e2 3 9;r2 2 8;r2 1 8;");
        told("kept where it hung", x, "3 1 1, 3 2 2");
        x = after("a0 0 0 1 1;a0 1 0 2 2;a0 2 0 3 3;a0 0 1 4 4;f;", "m0 1 4 0;m2 1 4 0;d1 1;e2 3 9;");
        told("by BASE's PARENTS", x, "3 3 3, 4 3 2");
        Used y = after("a0 0 0 1 1;a0 0 1 2 2;m0 1 2 0;f;d1 2;e2 1 9;");
        told("the PARENT of 1 is lost", y, "3 1 1, 4 1 2");
        walks("1 hangs on the ROOT", y, 3, "0:-1 1:0");
        walks("by BASE's PARENTS", x, 3, "0:-1 4:0 3:4");
    }

    /** Step (f). */
    private static void mergedRings() {
        at = "promise 15";
        Used x = after("a0 0 0 1 1;a0 0 1 2 2;a0 0 2 3 3;f;", "m1 1 2 0;m2 2 1 0;");
        told("a ring of two", x, "5 2 1");
        walks("a ring of two", x, 3, "0:-1 2:0 1:2 3:0");
        run(x, "p2;");
        told("RIGHT preferred", x, "5 1 2");
        walks("RIGHT preferred", x, 3, "0:-1 1:0 2:1 3:0");
        x = after("a0 0 0 1 1;a0 0 1 2 2;a0 0 2 3 3;a0 0 3 4 4;f;", "m1 1 2 0;m2 2 3 0;m1 3 4 0;m2 4 1 0;");
        told("a ring of four", x, "5 2 3");
        walks("a ring of four", x, 3, "0:-1 2:0 1:2 4:1 3:4");
        run(x, "p2;");
        told("a ring of four, RIGHT preferred", x, "5 1 2");
        x = after("a0 0 0 1 1;a0 0 1 2 2;a0 0 2 3 3;a0 0 3 4 4;f;", "m1 3 4 0;m2 4 3 0;m1 1 2 0;m2 2 1 0;");
        told("two rings", x, "5 2 1, 5 4 3");
        x = after("a0 0 0 1 1;a0 1 0 2 2;a0 0 1 3 3;f;", "m1 2 3 0;m2 3 2 0;d1 1;");
        told("put back, the PARENT in BASE is the ROOT", x, "5 3 2");
        x = after("a0 0 0 1 1;a0 1 0 2 2;a0 0 1 3 3;f;", "d1 2;m1 3 1 0;m2 2 3 0;d2 1;p1;");
        told("LEFT has not 2, RIGHT has not 1", x, "3 1 1, 3 2 2");
        walks("no ring", x, 3, "0:-1 1:0 3:1 2:3");
    }

    /** Step (f): which one is put back, put back higher, put back in vain and cut at the ROOT. */
    private static void mergedRingsInTurn() {
        at = "promise 15";
        Used x = after("a0 0 0 1 1;a0 1 0 2 2;a0 0 1 3 3;f;", "m1 2 0 0;m1 3 2 0;d1 1;m2 2 3 0;");
        told("a PARENT in dispute makes no ring", x, "2 2 3");
        walks("a PARENT in dispute makes no ring", x, 3, "0:-1 2:0 3:2");
        x = after("a0 0 0 1 1;a0 1 0 2 2;a0 0 1 3 3;a0 1 1 4 4;f;", "m1 3 2 0;m2 2 4 0;m2 4 3 0;");
        told("of 2 and 4 the lesser", x, "5 2 4");
        walks("2 is back on 1", x, 3, "0:-1 1:0 2:1 3:2 4:3");
        x = after("a0 0 0 1 1;a0 0 1 2 2;a0 0 2 3 3;a0 0 3 4 4;f;", "m1 1 4 0;m1 2 3 0;m2 4 1 0;m2 3 2 0;");
        told("the ring with the least section first", x, "5 4 1, 5 3 2");
        x = after("a0 0 0 1 1;a0 1 0 2 2;a0 0 1 3 3;f;", "m2 2 3 0;d2 1;m1 3 2 0;");
        told("put back higher: 1 is not in MERGED", x, "5 2 3");
        walks("2 hangs on the ROOT", x, 3, "0:-1 2:0 3:2");
        x = after("a0 0 0 1 1;a0 0 1 2 2;f;d0 1;d0 2;", "m1 1 2 0;m2 2 1 0;");
        told("beside BASE both PARENTS are in dispute", x, "2 1 0, 2 2 1");
        walks("as LEFT has them", x, 3, "0:-1 2:0 1:2");
        x = after("a0 0 0 1 1;a0 0 1 2 2;f;d0 1;", "m1 1 2 0;m2 2 1 0;");
        told("1 is not in BASE, 2 is put back", x, "2 1 0, 5 2 1");
        x = after("a0 0 0 1 1;a0 0 1 2 2;a0 0 2 3 3;a0 0 3 4 4;m0 1 4 0;f;",
                "m1 1 2 0;m1 2 3 0;m1 4 1 0;m2 1 2 0;m2 3 1 0;");
        told("moved by both, put back in vain", x, "5 1 2, 5 1 4");
        walks("1 is cut at the ROOT", x, 3, "0:-1 1:0 4:1 3:1 2:3");
        run(x, "m1 4 0 0;");
        told("merged anew, 1 can be put back again", x, "5 1 2");
        walks("1 is on 4", x, 3, "0:-1 4:0 1:4 3:1 2:3");
        x = after("a0 0 0 1 1;a0 1 0 2 2;a0 2 0 3 3;a0 0 1 4 4;f;", "m1 1 4 0;m2 3 1 0;d2 2;m2 4 3 0;");
        told("put back where it is, but once", x, "5 3 1, 5 4 3");
        walks("put back where it is, but once", x, 3, "0:-1 4:0 1:4 3:1");
        x = after("a0 0 0 1 1;a0 0 1 2 2;a0 0 2 3 3;f;d0 1;d1 1;", "m2 1 2 0;m2 3 1 0;m1 2 3 0;");
        told("1 is in the OTHER side alone", x, "5 3 1");
        walks("1 is in the OTHER side alone", x, 3, "0:-1 3:0 2:3 1:2");
        x = after("a0 0 0 1 1;a0 0 1 2 2;a0 0 2 3 3;m0 1 2 0;f;", "m1 2 3 0;m2 3 1 0;");
        told("1 is where BASE has it", x, "5 3 1");
    }

    /** Step (g). */
    private static void mergedPlaces() {
        at = "promise 15";
        Used x = after("a0 0 0 1 1;a0 0 1 2 2;a0 0 2 3 3;f;", "m1 3 0 0;m2 2 0 0;");
        walks("as LEFT", x, 3, "0:-1 3:0 1:0 2:0");
        run(x, "p2;");
        walks("as RIGHT", x, 3, "0:-1 2:0 1:0 3:0");
        run(x, "p1;a2 0 1 4 4;a2 0 0 5 5;");
        walks("RIGHT's among them", x, 3, "0:-1 3:0 5:0 1:0 2:0 4:0");
        due("places", x.of(3, 4, 1), 4);
        due("places", x.of(3, 3, 1), 0);
        x = after("a0 0 0 1 1;a0 0 1 2 2;a0 0 2 3 3;a0 0 3 4 4;f;a2 0 2 5 5;");
        walks("behind the one with the same place", x, 3, "0:-1 1:0 2:0 3:0 5:0 4:0");
        x = after("a0 0 0 1 1;a0 1 0 2 2;a0 1 1 3 3;a0 0 1 4 4;f;", "d1 1;e2 3 9;e2 2 9;a1 0 0 5 5;");
        walks("those without a home come last, by number", x, 3, "0:-1 5:0 4:0 2:0 3:0");
        x = after("a1 0 0 1 1;a2 0 0 2 2;p2;");
        walks("the PREFERRED side ahead", x, 3, "0:-1 2:0 1:0");
        x = after("a2 0 0 1 1;a1 0 0 2 2;");
        walks("the PREFERRED side ahead", x, 3, "0:-1 2:0 1:0");
    }

    private static void script() {
        at = "promise 16";
        Used x = after("a0 0 0 1 1;a0 0 1 2 2;a0 0 2 3 3;a0 3 0 4 4;f;");
        scripted("nothing", x, 1, "");
        run(x, "a1 0 0 9 9;d1 3;m1 2 1 0;r1 2 8;e1 2 8;r1 0 7;e1 0 7;e1 1 6;");
        scripted("LEFT", x, 1, "4 0, 5 0, 5 1, 3 2, 4 2, 5 2, 2 3, 2 4, 1 5");
        scripted("RIGHT", x, 2, "");
        run(x, "m2 1 0 2;");
        scripted("another place alone", x, 2, "");
        run(x, "m2 1 3 0;r2 3 5;");
        scripted("RIGHT", x, 2, "3 1, 4 3");
        due("not so many", x.script(2, MOST, 0), NOT_SO_MANY);
        due("o", x.script(0, 0, 0), BAD);
        due("o", x.script(3, 0, 0), BAD);
        due("i", x.script(1, -2, 0), BAD);
        due("what", x.script(1, 0, -1), BAD);
        due("what", x.script(1, 0, 2), BAD);
        due("what, behind the last", x.script(1, 99, 2), BAD);
        due("i NONE, what 1", x.script(1, NONE, 1), BAD);
        due("counted", x.refused(0), 7);
        Used all = new Used();
        for (int s = 1; s < 16; s++) {
            all.adds(0, 0, 0, 1, 1);
        }
        all.forks();
        for (int s = 0; s < 16; s++) {
            all.renames(1, s, 2);
            all.edits(1, s, 2);
            all.moves(1, s, s == 15 ? 14 : 15, 0);
        }
        due("the longest one", all.script(1, NONE, 0), 46);
    }

    private static void matches() {
        at = "promise 17";
        Used x = after("a0 0 0 10 20;a0 0 1 11 21;", "a1 0 0 11 21;a1 0 1 10 20;");
        due("all but the place", x.matches(1, 3), 2);
        due("all but the place", x.matches(1, 4), 1);
        due("RIGHT has none of them", x.matches(2, 3), BAD);
        x = after("a0 0 0 10 20;", "a1 0 0 50 60;");
        due("PARENT's NAME and place: 3", x.matches(1, 2), 1);
        run(x, "a1 0 0 51 61;");
        due("PARENT's NAME alone: 2", x.matches(1, 2), NONE);
        due("the other one has the place", x.matches(1, 3), 1);
        run(x, "r1 0 9;");
        due("place alone: 1", x.matches(1, 3), NONE);
        run(x, "e1 2 20;");
        due("TEXT alone: 2", x.matches(1, 2), NONE);
        run(x, "r1 2 10;e1 2 0;");
        due("NAME alone: 4", x.matches(1, 2), 1);
        run(x, "e1 3 20;");
        due("TEXT and place, 3, come behind", x.matches(1, 3), NONE);
        run(x, "r1 2 0;");
        due("TEXT and place: 3", x.matches(1, 3), 1);
        x = after("a0 0 0 1 1;a0 0 1 1 1;", "a2 0 0 1 1;a2 0 0 1 1;a2 0 0 1 1;");
        due("9 ahead of 8", x.matches(2, 5), 1);
        due("9 ahead of 8", x.matches(2, 4), 2);
        due("none is left", x.matches(2, 3), NONE);
        x = after("a0 0 0 1 1;a0 1 0 5 5;a0 1 1 5 5;", "a1 0 0 5 7;a1 0 1 5 8;");
        due("of like ones the lesser b", x.matches(1, 4), 2);
        due("its place", x.matches(1, 5), 3);
        x = after("a0 0 0 1 1;r0 0 50;a0 1 0 5 5;a0 1 1 5 5;", "a1 0 0 6 6;a1 0 1 6 6;a1 4 0 5 0;a1 5 0 5 1;");
        due("5 has the place of 2", x.matches(1, 6), 2);
        due("4 alone: the lesser b that is left", x.matches(1, 7), 3);
        due("a section that fits none", x.matches(1, 4), NONE);
        Used y = after("a0 0 0 10 20;a0 1 0 50 21;r1 0 9;a1 0 0 0 60;a1 3 0 50 61;a1 3 1 52 62;");
        due("place alone", y.matches(1, 3), NONE);
        due("NAME and place ahead of the PARENT's NAME and place", y.matches(1, 4), 2);
        due("the PARENT's NAME alone", y.matches(1, 5), NONE);
        due("o", x.matches(0, 1), BAD);
        due("o", x.matches(3, 1), BAD);
        due("the ROOT", x.matches(1, 0), BAD);
        due("s is not there", x.matches(1, 1), BAD);
        due("s", x.matches(1, 16), BAD);
        due("s", x.matches(1, -1), BAD);
        due("counted", x.refused(0), 6);
    }

    private static void told() {
        at = "promise 18";
        Used x = after("a0 0 0 1 1;a0 0 1 2 2;f;");
        due("preferred", x.told(0), 1);
        due("free", x.told(1), 3);
        due("all match themselves", x.told(2), 0);
        due("all match themselves", x.told(3), 0);
        run(x, "d1 1;a1 0 0 1 1;");
        due("one of LEFT matches another", x.told(2), 1);
        due("RIGHT as it was", x.told(3), 0);
        run(x, "r2 1 2;e2 1 2;r2 2 1;e2 2 1;p2;");
        due("two of RIGHT match another", x.told(3), 2);
        due("LEFT as it was", x.told(2), 1);
        due("preferred", x.told(0), 2);
        due("what", x.told(-1), BAD);
        due("what", x.told(4), BAD);
        due("counted", x.refused(0), 2);
        for (int s = 4; s < 16; s++) {
            due("free", x.told(1), s);
            x.adds(2, 0, 0, 0, 0);
        }
        due("none is free", x.told(1), 16);
    }

    private static void type() {
        at = "promise 19";
        Used x = new Used();
        due("0", x.type(0), 1);
        due("127", x.type(127), 2);
        due("-1", x.type(-1), BAD);
        due("128", x.type(128), BAD);
        due("how many", x.refused(3), 2);
        for (int i = 3; i <= 150; i++) {
            due("more", x.type(';'), i);
        }
        due("one more", x.type(';'), FULL);
        due("BAD ahead of FULL", x.type(128), BAD);
        due("how many", x.refused(3), 150);
        due("counted", x.refused(2), 1);
        due("counted", x.refused(0), 3);
        due("no state", x.refused(4), 0);
    }

    private static void clear() {
        at = "promise 20";
        Used x = new Used();
        due("nothing", x.clear(), 0);
        types(x, "f;f;");
        due("four", x.clear(), 4);
        due("nothing again", x.clear(), 0);
        due("bytes", x.refused(3), 0);
        due("no state", x.refused(4), 0);
        due("from the front again", x.type('f'), 1);
    }

    private static void does() {
        at = "promise 21";
        Used x = new Used();
        String ofEach = "a 0 0 0 10 11;a0 0 1 20 21;f;m1 2 1 0;r1 1 99;e 2 1 98 ;d2 2;p2;";
        due("one of each", doesText(x, ofEach), 8);
        due("THE TEXT stays", x.refused(3), ofEach.length());
        due("one state", x.refused(4), 1);
        due("m", x.of(1, 2, 0), 1);
        due("r", x.of(1, 1, 2), 99);
        due("e", x.of(2, 1, 3), 98);
        due("d", x.has(2, 2), 0);
        due("p", x.told(0), 2);
        due("a", x.of(0, 2, 1), 1);
        due("MERGED is new", x.of(3, 1, 2), 99);
        due("back over all of it", x.back(), 0);
        due("nothing is left", x.size(0, 0), 1);
        due("MERGED is taken back", x.size(3, 0), 1);
        due("again, THE TEXT being there still", x.does(), 8);
        long before = x.digest();
        due("BAD ends all", doesText(x, "r0 1 5;r0 1 6;r0 9 1;"), -1002);
        due("the first order ends all", doesText(x, "d0 0;"), -1000);
        due("NO ends all", doesText(x, "e0 1 9;a0 1 0 1 1;m0 1 1 0;"), -1002);
        x.clear();
        types(x, ofEach);
        due("nothing was done, nothing counted", x.digest(), before);
        due("the numbers are free", x.told(1), 3);
        due("two figures", doesText(x, "r0 01 09;"), 1);
        due("two figures", x.of(0, 1, 2), 9);
        due("blanks all over", doesText(x, "  r  0  1  7  ;  f  ;  "), 2);
        due("no blanks that are not needed", doesText(x, "r0 1 8;p1;f;"), 3);
        Used y = new Used();
        for (int s = 1; s < 16; s++) {
            y.adds(0, 0, 0, 1, 1);
        }
        due("FULL ends all", doesText(y, "f;a0 0 0 1 1;"), -1001);
        due("not counted", y.refused(2), 0);
        due("not forked", y.size(1, 0), 1);
        StringBuilder most = new StringBuilder();
        for (int i = 0; i < 75; i++) {
            most.append("f;");
        }
        due("the most orders", doesText(y, most.toString()), 75);
        due("states", y.refused(4), 5);
        due("the last order of a full TEXT ends too early", doesText(y, most.substring(0, 149) + " "), -160);
        due("order 73 ends all", doesText(y, most.substring(0, 146) + "p0;"), -1073);
    }

    private static void doesFaults() {
        at = "promise 21";
        Used x = after("a0 0 0 1 1;");
        String[] texts = {"", "   ", "x", ";", "f", "f1", "f;;", "f;x", "F;", "p", "p;", "p 1", "p1 2", "p123", "p12 ",
            "p1;f", "d1 1 1;", "d1;", "d1 ;", "d 1 1", "d11 1 1", "d111", "a0 0 0 1;", "a0 0 0 1 1 ", "a0 0 0 1 1 1",
            "a0 0 0 100 1;", "a00 00 00 00 000;", "m0 1 0;", "m0 1 0 0 0;", "r0 1;", "r0 1 1 1;", "e0 1 x;", "e0 1 -1;",
            "e0,1", "f;\t", "5", "ff;", "p1p2;", "f f;", "r0 1 100;", "  f  ;  g", "f;  "};
        int[] faults = {0, 3, 0, 0, 1, 1, 2, 2, 0, 1, 1, 3, 3, 3, 4, 4, 5, 2, 3, 5, 6, 3, 8, 11, 11, 9, 15, 6, 9, 4, 7,
            5, 5, 2, 2, 0, 1, 2, 2, 7, 8, NONE};
        due("as many texts as faults", texts.length, faults.length);
        for (int i = 0; i < texts.length; i++) {
            due("does, THE TEXT being '" + texts[i] + "'", doesText(x, texts[i]),
                    faults[i] == NONE ? 1 : -10 - faults[i]);
        }
        due("nothing counted", x.refused(0) + x.refused(1) + x.refused(2), 0);
        due("states: of the first and the last one alone", x.refused(4), 2);
        due("a fault behind orders that could be done", doesText(x, "r0 1 77;r0 1 7"), -24);
        due("is nothing done", x.of(0, 1, 2), 1);
        due("a fault ahead of an order that would be refused", doesText(x, "d0 0;x"), -15);
        x = new Used();
        types(x, "f;");
        for (int i = 2; i < 150; i++) {
            x.type(' ');
        }
        due("a full TEXT", x.does(), 1);
        x.clear();
        for (int i = 0; i < 150; i++) {
            x.type(' ');
        }
        due("blanks alone", x.does(), -160);
        x.clear();
        x.type(0);
        due("byte 0", x.does(), -10);
    }

    private static void back() {
        at = "promise 22";
        Used x = new Used();
        due("none", x.back(), NO);
        for (int i = 1; i <= 7; i++) {
            x.renames(0, 0, i);
        }
        due("five at most", x.refused(4), 5);
        for (int i = 6; i >= 2; i--) {
            due("how many can be yet", x.back(), i - 2);
            due("the NAME that it was", x.of(0, 0, 2), i);
        }
        due("none", x.back(), NO);
        due("as it was", x.of(0, 0, 2), 2);
        due("counted", x.refused(1), 2);
        types(x, "p2;");
        x.prefers(1);
        x.adds(9, 9, 9, 9, 9);
        due("refused calls leave none", x.refused(4), 1);
        x.renames(0, 0, 2);
        due("nothing becomes other, a state all the same", x.refused(4), 2);
        x.adds(1, 0, 0, 1, 1);
        x.adds(2, 0, 0, 1, 1);
        due("free", x.told(1), 3);
        due("back", x.back(), 3);
        due("free again", x.told(1), 2);
        due("RIGHT", x.size(2, 0), 1);
        due("LEFT", x.size(1, 0), 2);
        due("back", x.back(), 2);
        due("free again", x.told(1), 1);
        due("THE TEXT stays", x.refused(3), 3);
        due("how often stays", x.refused(0), 1);
        x.does();
        x.adopts();
        x.forks();
        due("three more", x.refused(4), 5);
        due("back", x.back(), 4);
        due("back", x.back(), 3);
        due("preferred by does()", x.told(0), 2);
        due("back over does()", x.back(), 2);
        due("preferred", x.told(0), 1);
    }

    /** The digest tells of all that back() brings back, so it must be as it was ahead of each act. */
    private static void backOverEach() {
        at = "promise 22";
        for (int first = 0; first <= 5; first++) {
            Used x = after("a0 0 0 1 1;a0 1 0 2 2;a0 0 1 3 3;f;m1 1 3 0;r2 1 9;e2 2 9;a2 0 0 4 4;");
            x.back();
            x.does();
            x.back();
            x.does();
            long[] before = new long[4];
            for (int i = 0; i < 4; i++) {
                before[i] = x.digest();
                due("act " + (first + i), anAct(x, first + i) >= 0 ? 1 : 0, 1);
                due("act " + (first + i) + " is seen", x.digest() != before[i] ? 1 : 0, 1);
            }
            for (int i = 3; i >= 0; i--) {
                due("back over act " + (first + i), x.back(), i + 1);
                due("all is as it was ahead of act " + (first + i), x.digest(), before[i]);
            }
        }
    }

    private static int anAct(Used x, int kind) {
        switch (kind) {
            case 0: return x.adds(1, 2, 0, 5, 5);
            case 1: return x.moves(2, 3, 2, 0);
            case 2: return x.renames(1, 2, 50);
            case 3: return x.edits(2, 1, 51);
            case 4: return x.deletes(1, 2);
            case 5: return x.prefers(2);
            case 6: return x.adopts();
            case 7: return x.does();
            default: return x.forks();
        }
    }

    private static void refused() {
        at = "promise 23";
        Used x = new Used();
        due("what", x.refused(-1), BAD);
        due("what", x.refused(5), BAD);
        due("BAD", x.refused(0), 2);
        x.back();
        due("NO", x.refused(1), 1);
        x.adds(0, 0, 0, 1, 1);
        x.moves(0, 1, 1, 0);
        due("NO", x.refused(1), 2);
        due("bytes", x.refused(3), 0);
        x.type('f');
        due("bytes", x.refused(3), 1);
        due("states", x.refused(4), 1);
        for (int i = 0; i < 16; i++) {
            x.adds(0, 0, 0, 1, 1);
        }
        due("FULL", x.refused(2), 2);
        due("BAD", x.refused(0), 2);
        due("states", x.refused(4), 5);
        x.does();
        x.clear();
        types(x, "d0 0;");
        x.does();
        due("by does() nothing counts", x.refused(0), 2);
        x.has(0, 99);
        x.of(0, 0, 9);
        x.told(9);
        due("getters, too", x.refused(0), 5);
        due("refused calls change nothing else", x.refused(4), 5);
    }

    private static long digestByGetters(Used x) {
        long h = 1703;
        for (int what = 0; what < 5; what++) {
            h = 31 * h + x.refused(what);
        }
        for (int what = 0; what < 4; what++) {
            h = 31 * h + x.told(what);
        }
        for (int o = 0; o < 4; o++) {
            h = 31 * h + x.size(o, 0);
            h = 31 * h + x.size(o, 1);
            for (int i = 0; i < x.size(o, 0); i++) {
                int s = x.walk(o, i);
                h = 31 * h + s;
                for (int what = 0; what < 4; what++) {
                    h = 31 * h + x.of(o, s, what);
                }
            }
        }
        int count = x.conflicts(NONE, 0);
        h = 31 * h + count;
        for (int i = 0; i < count; i++) {
            for (int what = 0; what < 3; what++) {
                h = 31 * h + x.conflicts(i, what);
            }
        }
        h = 31 * h + x.script(1, NONE, 0);
        return 31 * h + x.script(2, NONE, 0);
    }

    private static void digest() {
        at = "promise 24";
        Used x = new Used();
        due("at first", x.digest(), digestByGetters(x));
        String[] story = {"a0 0 0 1 1;a0 0 1 2 2;a0 2 0 3 3;a0 0 2 4 4;f;",
            "m1 1 2 0;m2 2 1 0;r1 3 7;r2 3 8;d1 4;e2 4 9;a2 4 0 6 6;"};
        x = after(story);
        due("with conflicts", x.digest(), digestByGetters(x));
        x = after(story);
        x.back();
        due("behind back()", x.digest(), digestByGetters(x));
        x = after(story);
        x.has(9, 9);
        x.type('x');
        long once = x.digest();
        due("behind a refused call", once, digestByGetters(x));
        due("asked twice", x.digest(), once);
    }
}
