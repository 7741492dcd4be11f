/** The edges that 'Terms' names ahead of MERGED: SECTIONS, OUTLINES, ADD, MOVE, DELETE. EDGES.md has the sentences. */
public final class TermsEdgeTest extends Checks {
    public static void main(String[] args) throws IllegalAccessException {
        runEdges(TermsEdgeTest.class);
    }

    static void the512thCall() {
        Used x = new Used();
        for (int i = 1; i < 512; i++) {
            x.renames(0, 0, i % 100);
        }
        due("the 512th call", x.renames(0, 0, 50), 11);
        x = new Used();
        for (int i = 1; i < 512; i++) {
            x.told(9);
        }
        due("refused 511 times", x.refused(0), 511);
    }

    static void sectionNumbers() {
        for (int outline = 0; outline < 4; outline++) {
            int o = outline;
            asks("0 is the ROOT", Checks::empty, x -> x.has(o, 0), 1);
            asks("15 is not there", Checks::empty, x -> x.has(o, 15), 0);
            asks("15 is there", Checks::filled, x -> x.has(o, 15), 1);
            asks("15 is there", Checks::filled, x -> x.of(o, 15, 2), 15);
            outside("has", 0, 15, s -> x -> x.has(o, s));
            outside("of", 0, 15, s -> x -> x.of(o, s, 2));
        }
        leaves("15 told anew", Checks::filled, x -> x.renames(2, 15, 0), 15);
        leaves("15 moved", Checks::filled, x -> x.moves(1, 15, 14, 0), 14);
        leaves("15 moved on", Checks::filled, x -> x.moves(1, 1, 15, 0), 0);
        leaves("15 deleted", Checks::filled, x -> x.deletes(0, 15), 1);
        asks("15 matched", Checks::filled, x -> x.matches(2, 15), 15);
    }

    static void outlinesThatCanBeEdited() {
        int[] places = {0, 0, 1};
        int[] names = {10, 20, 21};
        int[] below = {2, 3, 1};
        for (int outline = 0; outline < 3; outline++) {
            int o = outline;
            leaves("adds", Checks::grown, x -> x.adds(o, 0, 0, 1, 2), 5);
            leaves("moves", Checks::grown, x -> x.moves(o, 1, 0, 0), places[o]);
            leaves("renames", Checks::grown, x -> x.renames(o, 1, 7), names[o]);
            leaves("edits", Checks::grown, x -> x.edits(o, 1, 7), 11);
            leaves("deletes", Checks::grown, x -> x.deletes(o, 1), below[o]);
        }
        outside("adds", 0, 2, o -> x -> x.adds(o, 0, 0, 1, 1));
        outside("moves", 0, 2, o -> x -> x.moves(o, 1, 0, 0));
        outside("renames", 0, 2, o -> x -> x.renames(o, 0, 1));
        outside("edits", 0, 2, o -> x -> x.edits(o, 0, 1));
        outside("deletes", 0, 2, o -> x -> x.deletes(o, 1));
    }

    static void outlinesThatCanBeAsked() {
        int[] sizes = {4, 4, 4, 5};
        for (int outline = 0; outline < 4; outline++) {
            int o = outline;
            asks("has", Checks::grown, x -> x.has(o, 1), 1);
            asks("of", Checks::grown, x -> x.of(o, 1, 3), 11);
            asks("walk", Checks::grown, x -> x.walk(o, 0), 0);
            asks("size", Checks::grown, x -> x.size(o, 0), sizes[o]);
            asks("alike", Checks::grown, x -> x.alike(o, o), sizes[o]);
        }
        outside("has", 0, 3, o -> x -> x.has(o, 0));
        outside("of", 0, 3, o -> x -> x.of(o, 0, 0));
        outside("walk", 0, 3, o -> x -> x.walk(o, 0));
        outside("size", 0, 3, o -> x -> x.size(o, 0));
        outside("alike, the one", 0, 3, o -> x -> x.alike(o, 0));
        outside("alike, the other", 0, 3, o -> x -> x.alike(0, o));
    }

    static void theRootAloneAtFirst() {
        for (int o = 0; o < 4; o++) {
            Used x = new Used();
            walks("outline " + o, x, o, "0:-1");
            due("SECTIONS", x.size(o, 0), 1);
            due("how deep", x.size(o, 1), 0);
            for (int s = 1; s < 16; s++) {
                due("has", x.has(o, s), 0);
            }
        }
    }

    static void theRootAlways() {
        for (int outline = 0; outline < 3; outline++) {
            int o = outline;
            refusesEverywhere("the ROOT deleted", x -> x.deletes(o, 0), BAD);
            refusesEverywhere("the ROOT moved", x -> x.moves(o, 0, 0, 0), BAD);
            Used x = after("a" + o + " 0 0 1 1;a" + o + " 1 0 1 1;d" + o + " 1;");
            walks("all deleted but the ROOT", x, o, "0:-1");
            walks("merged", x, 3, "0:-1");
        }
        Used x = after("a0 0 0 1 1;f;d1 1;d2 1;");
        due("nothing but the ROOT adopted", x.adopts(), 1);
        walks("BASE", x, 0, "0:-1");
        due("forked", x.forks(), 1);
        due("adopted again", x.adopts(), 1);
    }

    static void placesFrom0() {
        due("the ROOT's place", after(Checks::filled).of(0, 0, 1), 0);
        due("the first", after(Checks::filled).of(0, 1, 1), 0);
        due("the 15th", after(Checks::filled).of(0, 15, 1), 14);
        due("the 15th, merged", after(Checks::filled).of(3, 15, 1), 14);
        due("an only child", after(Checks::chained).of(0, 15, 1), 0);
    }

    static void valuesFrom0To99() {
        for (int value : new int[] {0, 99}) {
            int v = value;
            leaves("NAME", Checks::grown, x -> x.adds(0, 0, 0, v, 50), 5);
            leaves("TEXT", Checks::grown, x -> x.adds(0, 0, 0, 50, v), 5);
            Used x = after(Checks::grown);
            int s = x.adds(1, 0, 0, v, 99 - v);
            due("NAME", x.of(1, s, 2), v);
            due("TEXT", x.of(1, s, 3), 99 - v);
            leaves("NAME told anew", Checks::grown, y -> y.renames(0, 1, v), 10);
            leaves("TEXT told anew", Checks::grown, y -> y.edits(0, 1, v), 11);
            x.renames(2, 1, v);
            due("NAME told anew", x.of(2, 1, 2), v);
            x.edits(2, 1, v);
            due("TEXT told anew", x.of(2, 1, 3), v);
        }
        outside("NAME", 0, 99, v -> x -> x.adds(0, 0, 0, v, 1));
        outside("TEXT", 0, 99, v -> x -> x.adds(0, 0, 0, 1, v));
        outside("NAME told anew", 0, 99, v -> x -> x.renames(0, 0, v));
        outside("TEXT told anew", 0, 99, v -> x -> x.edits(0, 0, v));
        outside("NAME of 1 told anew", 0, 99, v -> x -> x.renames(1, 1, v));
        outside("TEXT of 1 told anew", 0, 99, v -> x -> x.edits(2, 1, v));
    }

    static void theRootToldAnew() {
        for (int outline = 0; outline < 3; outline++) {
            int o = outline;
            leaves("NAME", Checks::empty, x -> x.renames(o, 0, 99), 0);
            leaves("TEXT", Checks::empty, x -> x.edits(o, 0, 99), 0);
            Used x = new Used();
            due("NAME at first", x.of(o, 0, 2), 0);
            due("TEXT at first", x.of(o, 0, 3), 0);
            x.renames(o, 0, 99);
            due("NAME", x.of(o, 0, 2), 99);
            due("TEXT, as it was", x.of(o, 0, 3), 0);
            due("NAME back to 0", x.renames(o, 0, 0), 99);
            x.edits(o, 0, 98);
            due("TEXT", x.of(o, 0, 3), 98);
            due("NAME, as it was", x.of(o, 0, 2), 0);
            due("TEXT back to 0", x.edits(o, 0, 0), 98);
            due("of another outline", x.of((o + 1) % 3, 0, 3), 0);
        }
        refusesEverywhere("MERGED's NAME", x -> x.renames(3, 0, 1), BAD);
        refusesEverywhere("MERGED's TEXT", x -> x.edits(3, 0, 1), BAD);
    }

    static void belowIsItselfToo() {
        Used x = after(Checks::chained);
        due("the last of a chain", x.of(0, 15, 5), 1);
        due("the one ahead of it", x.of(0, 14, 5), 2);
        due("the first of a chain", x.of(0, 1, 5), 15);
        due("the ROOT", x.of(0, 0, 5), 16);
        due("the ROOT alone", x.of(1, 0, 5), 1);
        x = after(Checks::filled);
        due("one of fifteen", x.of(3, 7, 5), 1);
        due("the ROOT", x.of(3, 0, 5), 16);
        refuses("a MOVE on itself", Checks::chained, y -> y.moves(0, 15, 15, 0), NO);
        refuses("a MOVE on a child", Checks::chained, y -> y.moves(0, 14, 15, 0), NO);
        refuses("a MOVE to the last of a chain", Checks::chained, y -> y.moves(0, 1, 15, 0), NO);
        leaves("a MOVE to the first of a chain", Checks::chained, y -> y.moves(0, 15, 1, 0), 0);
    }

    static void numbersThatNoneEverHad() {
        Used x = new Used();
        due("BASE", x.adds(0, 0, 0, 1, 1), 1);
        due("LEFT", x.adds(1, 0, 0, 1, 1), 2);
        due("RIGHT", x.adds(2, 0, 0, 1, 1), 3);
        x.deletes(0, 1);
        x.deletes(1, 2);
        x.deletes(2, 3);
        due("behind deleting", x.adds(0, 0, 0, 1, 1), 4);
        due("a number of LEFT", x.adds(1, 0, 0, 1, 1), 5);
        due("forks loses it", x.forks(), 2);
        due("it is gone", x.has(1, 5), 0);
        due("behind forking", x.adds(1, 0, 0, 1, 1), 6);
        x.deletes(2, 4);
        x.deletes(1, 4);
        due("adopts loses 4", x.adopts(), 2);
        due("it is gone", x.has(0, 4), 0);
        due("behind adopting", x.adds(2, 0, 0, 1, 1), 7);
        due("told", x.told(1), 8);
        due("by an order", doesText(x, "a0 0 0 1 1;d0 8;a0 0 0 1 1;"), 3);
        due("its number", x.has(0, 9), 1);
        due("told", x.told(1), 10);
    }

    static void fullBehind15() {
        Used x = new Used();
        for (int s = 1; s < 15; s++) {
            due("a number", x.adds(s % 3, 0, 0, 1, 1), s);
        }
        due("one is free", x.told(1), 15);
        due("the last number", x.adds(1, 0, 0, 1, 1), 15);
        due("none is free", x.told(1), 16);
        for (int outline = 0; outline < 3; outline++) {
            int o = outline;
            refuses("one more", Checks::filled, y -> y.adds(o, 0, 0, 1, 1), FULL);
            refuses("one more, all being deleted", TermsEdgeTest::filledAndDeleted, y -> y.adds(o, 0, 0, 1, 1), FULL);
        }
        due("by an order", doesText(after(Checks::flat), "a0 0 0 1 1;"), -1000);
        due("by an order, a number ahead", doesText(after("a0 0 0 1 1;".repeat(13)), "a0 0 0 1 1;".repeat(3)), -1002);
    }

    private static void filledAndDeleted(Used x) {
        filled(x);
        for (int s = 1; s < 16; s++) {
            for (int o = 0; o < 3; o++) {
                x.deletes(o, s);
            }
        }
    }

    static void badAheadOfFull() {
        refuses("o", Checks::filled, x -> x.adds(3, 0, 0, 1, 1), BAD);
        refuses("p", Checks::filled, x -> x.adds(0, 16, 0, 1, 1), BAD);
        refuses("k", Checks::filled, x -> x.adds(0, 0, 16, 1, 1), BAD);
        refuses("n", Checks::filled, x -> x.adds(0, 0, 0, 100, 1), BAD);
        refuses("t", Checks::filled, x -> x.adds(0, 0, 0, 1, 100), BAD);
        refuses("none of them", Checks::filled, x -> x.adds(0, 0, 15, 99, 99), FULL);
    }

    static void freeBehindBack() {
        Used x = after(Checks::filled);
        x.back();
        due("back over forks frees none", x.told(1), 16);
        due("FULL, still", x.adds(0, 0, 0, 1, 1), FULL);
        x.back();
        due("back over the last ADD", x.told(1), 15);
        for (int i = 0; i < 3; i++) {
            x.back();
        }
        due("back over five states", x.told(1), 12);
        due("no further", x.back(), NO);
        due("the least comes first", x.adds(2, 0, 0, 1, 1), 12);
        due("then the next one", x.adds(1, 0, 0, 1, 1), 13);
        x = after("a0 0 0 1 1;", "a0 0 0 1 1;a1 0 0 1 1;a2 0 0 1 1;");
        due("four had", x.told(1), 5);
        x.back();
        due("orders taken back", x.told(1), 2);
        x.deletes(0, 1);
        x.back();
        due("back over deleting frees none", x.told(1), 2);
        due("an order that is refused", doesText(x, "a0 0 0 1 1;a0 0 0 1 1;d0 0;"), -1002);
        due("frees what was done ahead of it", x.told(1), 2);
    }

    static void placesOfAdd() {
        leaves("on the ROOT alone", Checks::empty, x -> x.adds(2, 0, 0, 1, 1), 1);
        outside("on the ROOT alone", Checks::empty, 0, 0, k -> x -> x.adds(2, 0, k, 1, 1));
        leaves("on one without children", Checks::grown, x -> x.adds(2, 3, 0, 1, 1), 5);
        outside("on one without children", Checks::grown, 0, 0, k -> x -> x.adds(2, 3, k, 1, 1));
        leaves("ahead of three", Checks::grown, x -> x.adds(2, 0, 0, 1, 1), 5);
        leaves("behind three", Checks::grown, x -> x.adds(2, 0, 3, 1, 1), 5);
        outside("on one with three", Checks::grown, 0, 3, k -> x -> x.adds(2, 0, k, 1, 1));
        leaves("behind two", Checks::grown, x -> x.adds(1, 1, 2, 1, 1), 5);
        outside("on one with two, that has none in RIGHT", Checks::grown, 0, 2, k -> x -> x.adds(1, 1, k, 1, 1));
        outside("on one with none, that has two in LEFT", Checks::grown, 0, 0, k -> x -> x.adds(2, 1, k, 1, 1));
        leaves("the 15th child", TermsEdgeTest::fourteen, x -> x.adds(0, 0, 14, 1, 1), 15);
        outside("the 15th child", TermsEdgeTest::fourteen, 0, 14, k -> x -> x.adds(0, 0, k, 1, 1));
    }

    private static void fourteen(Used x) {
        for (int s = 1; s < 15; s++) {
            x.adds(0, 0, 0, s, s);
        }
    }

    static void thoseBehindAreOneFurther() {
        String three = "a0 0 0 1 1;a0 0 1 2 2;a0 0 2 3 3;a0 1 0 4 4;";
        walks("at the front", after(three, "a0 0 0 5 5;"), 0, "0:-1 5:0 1:0 4:1 2:0 3:0");
        walks("between", after(three, "a0 0 1 5 5;"), 0, "0:-1 1:0 4:1 5:0 2:0 3:0");
        walks("ahead of the last", after(three, "a0 0 2 5 5;"), 0, "0:-1 1:0 4:1 2:0 5:0 3:0");
        walks("at the end", after(three, "a0 0 3 5 5;"), 0, "0:-1 1:0 4:1 2:0 3:0 5:0");
        Used x = after(three, "a0 0 1 5 5;");
        int[] places = {0, 0, 2, 3, 0, 1};
        for (int s = 1; s < 6; s++) {
            due("place of " + s, x.of(0, s, 1), places[s]);
        }
    }

    static void thoseBehindAreOneNearer() {
        String five = "a0 0 0 1 1;a0 0 1 2 2;a0 0 2 3 3;a0 2 0 4 4;a0 2 1 5 5;";
        walks("the first goes", after(five, "m0 1 3 0;"), 0, "0:-1 2:0 4:2 5:2 3:0 1:3");
        walks("the middle one goes", after(five, "m0 2 3 0;"), 0, "0:-1 1:0 3:0 2:3 4:2 5:2");
        walks("the last goes", after(five, "m0 3 2 1;"), 0, "0:-1 1:0 2:0 4:2 3:2 5:2");
        walks("to the front", after(five, "m0 3 0 0;"), 0, "0:-1 3:0 1:0 2:0 4:2 5:2");
        walks("to the end", after(five, "m0 1 0 2;"), 0, "0:-1 2:0 4:2 5:2 3:0 1:0");
        walks("one on", after(five, "m0 1 0 1;"), 0, "0:-1 2:0 4:2 5:2 1:0 3:0");
        walks("where it is", after(five, "m0 2 0 1;"), 0, "0:-1 1:0 2:0 4:2 5:2 3:0");
        Used x = after(five, "m0 1 2 1;");
        int[] places = {0, 1, 0, 1, 0, 2};
        for (int s = 1; s < 6; s++) {
            due("place of " + s, x.of(0, s, 1), places[s]);
        }
    }

    static void placesOfMove() {
        leaves("the last place of its PARENT", Checks::filled, x -> x.moves(0, 1, 0, 14), 0);
        refuses("one further", Checks::filled, x -> x.moves(0, 1, 0, 15), BAD);
        refuses("one further, from the end", Checks::filled, x -> x.moves(0, 15, 0, 15), BAD);
        refuses("below 0", Checks::filled, x -> x.moves(0, 15, 0, -1), BAD);
        leaves("an only child", Checks::chained, x -> x.moves(0, 5, 4, 0), 0);
        refuses("an only child, one further", Checks::chained, x -> x.moves(0, 5, 4, 1), BAD);
        leaves("behind those of another", Checks::chained, x -> x.moves(0, 5, 1, 1), 0);
        refuses("one further", Checks::chained, x -> x.moves(0, 5, 1, 2), BAD);
        leaves("ahead of those of another", Checks::chained, x -> x.moves(0, 5, 1, 0), 0);
        refuses("below 0", Checks::chained, x -> x.moves(0, 5, 1, -1), BAD);
        leaves("on one without children", Checks::filled, x -> x.moves(2, 3, 9, 0), 2);
        refuses("on one without children, one further", Checks::filled, x -> x.moves(2, 3, 9, 1), BAD);
        outside("wherever it goes", 0, 14, k -> x -> x.moves(0, 1, 0, k));
    }

    static void deletesAllBelow() {
        leaves("a leaf", Checks::filled, x -> x.deletes(1, 8), 1);
        leaves("the last of a chain", Checks::chained, x -> x.deletes(0, 15), 1);
        leaves("half of a chain", Checks::chained, x -> x.deletes(0, 8), 8);
        leaves("a chain", Checks::chained, x -> x.deletes(0, 1), 15);
        Used x = after(Checks::chained);
        x.deletes(0, 8);
        due("7 stays", x.has(0, 7), 1);
        for (int s = 8; s < 16; s++) {
            due("gone", x.has(0, s), 0);
        }
        due("7 has no children", x.of(0, 7, 4), 0);
        x.deletes(0, 1);
        due("the ROOT alone", x.size(0, 0), 1);
        x = after(Checks::filled);
        x.deletes(2, 1);
        due("the first is gone: one nearer", x.of(2, 15, 1), 13);
        x.deletes(2, 15);
        due("the last is gone: as it was", x.of(2, 14, 1), 12);
        due("LEFT, as it was", x.size(1, 0), 16);
        walks("a child's place", after("a0 0 0 1 1;a0 1 0 2 2;a0 1 1 3 3;a0 1 2 4 4;a0 3 0 5 5;d0 3;"), 0,
                "0:-1 1:0 2:1 4:1");
    }
}
