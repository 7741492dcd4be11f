/** The edges that 'Terms' names in MERGED, steps (a) to (g), and in its CONFLICTS. EDGES.md has the sentences. */
public final class MergedEdgeTest extends Checks {
    private static final String TWO = "a0 0 0 5 50;a0 0 1 6 60;f;";
    private static final String THREE = "a0 0 0 1 1;a0 0 1 2 2;a0 0 2 3 3;f;";
    private static final String FOUR = "a0 0 0 1 1;a0 0 1 2 2;a0 0 2 3 3;a0 0 3 4 4;f;";

    public static void main(String[] args) throws IllegalAccessException {
        runEdges(MergedEdgeTest.class);
    }

    /** Sections as numbers alone, as walked. */
    private static void order(String what, Used x, String want) {
        due(what, walked(x, 3).replaceAll(":[-0-9]+", ""), want);
    }

    private static String side(int o, String orders) {
        return orders.replace("$", String.valueOf(o));
    }

    // ---- CONFLICTS

    static void leftIsPreferredAtFirst() {
        Used x = after(TWO, "r1 1 8;r2 1 9;");
        due("told", x.told(0), 1);
        due("LEFT's NAME", x.of(3, 1, 2), 8);
        due("which was", x.prefers(2), 1);
        due("RIGHT's NAME", x.of(3, 1, 2), 9);
        due("told", x.told(0), 2);
        due("which was", x.prefers(1), 2);
        due("LEFT's NAME again", x.of(3, 1, 2), 8);
    }

    static void conflictsInTheirOrder() {
        Used x = after("a0 0 0 1 1;a0 0 1 2 2;a0 0 2 3 3;a0 0 3 4 4;a0 0 4 5 5;a0 5 0 6 6;a0 0 5 7 7;a0 0 6 8 8;f;",
                "m1 1 2 0;m1 3 4 0;d1 5;e1 4 40;e1 7 40;r1 7 40;r1 0 40;e1 0 40;e1 8 40;",
                "m2 2 1 0;m2 3 7 0;e2 6 50;e2 4 50;e2 7 50;r2 7 50;r2 0 50;e2 0 50;d2 8;");
        told("all kinds", x, "3 6 6, 3 8 8, 0 0 0, 0 7 7, 1 0 0, 1 4 4, 1 7 7, 2 3 7, 4 6 5, 5 2 1");
    }

    static void noConflict() {
        Used x = new Used();
        due("of a new object", x.conflicts(NONE, 0), 0);
        due("the first of none", x.conflicts(0, 0), NOT_SO_MANY);
        due("of outlines that are alike", after(Checks::filled).conflicts(NONE, 0), 0);
    }

    /** Each section has another PARENT, NAME and TEXT in each outline; LEFT's tree stands. */
    static void asManyConflictsAsCanBe() {
        Used x = new Used();
        x.adds(0, 0, 0, 1, 1);
        for (int s = 2; s < 16; s++) {
            x.adds(0, 1, 0, 1, 1);
        }
        x.forks();
        hangAllOn(x, 1, 2);
        hangAllOn(x, 2, 3);
        due("16 NAMES, 16 TEXTS, 15 PARENTS", x.conflicts(NONE, 0), 47);
        for (int s = 0; s < 16; s++) {
            row(x, s, "0 " + s + " " + s);
            row(x, 16 + s, "1 " + s + " " + s);
        }
        for (int s = 1; s < 16; s++) {
            row(x, 31 + s, "2 " + s + (s == 3 ? " 0" : " 3"));
        }
        for (int what = 0; what < 3; what++) {
            due("behind the last", x.conflicts(47, what), NOT_SO_MANY);
        }
    }

    private static void hangAllOn(Used x, int o, int top) {
        x.moves(o, top, 0, 0);
        x.moves(o, 1, top, 0);
        for (int s = 0; s < 16; s++) {
            x.renames(o, s, 10 * o);
            x.edits(o, s, 10 * o);
            if (s > 1 && s != top) {
                x.moves(o, s, top, 0);
            }
        }
    }

    private static void row(Used x, int i, String want) {
        due("conflict " + i, x.conflicts(i, 0) + " " + x.conflicts(i, 1) + " " + x.conflicts(i, 2), want);
    }

    // ---- (a)

    static void changedByNameTextOrParent() {
        for (int o = 1; o < 3; o++) {
            for (String preferred : new String[] {"p1;", "p2;"}) {
                Used x = after(TWO, preferred, side(3 - o, "d$ 1;"));
                due("nothing is CHANGED", x.has(3, 1), 0);
                changes(x, side(o, "r$ 1 6;"), side(o, "r$ 1 5;"));
                changes(x, side(o, "r$ 1 0;"), side(o, "r$ 1 5;"));
                changes(x, side(o, "e$ 1 51;"), side(o, "e$ 1 50;"));
                changes(x, side(o, "e$ 1 0;"), side(o, "e$ 1 50;"));
                changes(x, side(o, "m$ 1 2 0;"), side(o, "m$ 1 0 0;"));
            }
        }
    }

    /** Section 1 is kept with a CONFLICT 3 behind the one text, gone behind the other. */
    private static void changes(Used x, String makes, String unmakes) {
        run(x, makes);
        due(makes, x.has(3, 1), 1);
        told(makes, x, "3 1 1");
        run(x, unmakes);
        due(unmakes, x.has(3, 1), 0);
        told(unmakes, x, "");
    }

    static void changedByAChild() {
        for (int o = 1; o < 3; o++) {
            Used x = after("a0 0 0 5 50;a0 1 0 6 60;a0 1 1 7 70;a0 0 1 8 80;f;", side(3 - o, "d$ 1;"));
            due("its own children", x.has(3, 1), 0);
            changes(x, side(o, "a$ 1 0 9 90;"), side(o, "d$ 5;"));
            changes(x, side(o, "m$ 4 1 1;"), side(o, "m$ 4 0 1;"));
            run(x, side(o, "m$ 3 1 0;"));
            told("its children in another order", x, "");
            run(x, side(o, "d$ 3;"));
            told("a child lost", x, "");
            run(x, side(o, "a$ 2 0 9 90;"));
            told("a child's child is the child's", x, "3 2 2, 4 2 1");
            run(x, side(o, "m$ 6 1 0;"));
            told("a child lost, one come", x, "3 1 1");
        }
        told("the least number as the child", after(THREE, "d1 2;m2 1 2 0;"), "3 2 2");
        told("the greatest number as the child", after("a0 0 0 1 1;".repeat(13),
                "a0 0 0 1 1;f;d1 1;a2 1 0 1 1;"), "3 1 1");
    }

    static void anotherPlaceIsNoChange() {
        Used x = after(THREE, "d1 1;m2 1 0 2;");
        due("another place", x.has(3, 1), 0);
        told("another place", x, "");
        scripted("another place", x, 2, "");
    }

    static void inBaseAndInBothSides() {
        told("as it was", after(TWO), "");
        due("as it was", after(TWO).has(3, 2), 1);
        due("changed by one", after(TWO, "r1 2 9;").has(3, 2), 1);
        told("changed by one", after(TWO, "r1 2 9;"), "");
        due("changed by both", after(TWO, "r1 2 9;e2 2 9;m2 2 1 0;").has(3, 2), 1);
        told("changed by both", after(TWO, "r1 2 9;e2 2 9;m2 2 1 0;"), "");
        Used x = after(Checks::filled);
        due("all of them", x.size(3, 0), 16);
        due("alike", x.alike(0, 3), 16);
    }

    static void inBaseAndInOneSide() {
        for (int o = 1; o < 3; o++) {
            Used x = after(THREE, side(o, "d$ 3;d$ 1;"), side(3 - o, "r$ 3 9;e$ 1 9;"));
            told("by rising numbers", x, "3 1 1, 3 3 3");
            due("NAME", x.of(3, 3, 2), 9);
            due("TEXT", x.of(3, 1, 3), 9);
            x.prefers(3 - x.told(0));
            told("whichever is PREFERRED", x, "3 1 1, 3 3 3");
            due("all are there", x.size(3, 0), 4);
        }
    }

    static void notInBase() {
        for (int o = 1; o < 3; o++) {
            Used x = after(side(o, "a$ 0 0 7 8;a$ 1 0 9 10;"));
            walks("in one side", x, 3, "0:-1 1:0 2:1");
            due("NAME", x.of(3, 1, 2), 7);
            due("TEXT", x.of(3, 2, 3), 10);
            told("in one side", x, "");
            run(x, "p2;");
            walks("whichever is PREFERRED", x, 3, "0:-1 1:0 2:1");
        }
        Used x = after(TWO, "d0 1;d0 2;");
        walks("in both sides", x, 3, "0:-1 1:0 2:0");
        run(x, "d2 1;");
        walks("in one of them", x, 3, "0:-1 1:0 2:0");
        told("in one of them", x, "");
        run(x, "d1 1;");
        walks("in none", x, 3, "0:-1 2:0");
    }

    /** NAME 0, TEXT 0 and the ROOT as PARENT are what an empty place would show, so these must be in dispute, too. */
    static void notInBaseAndInBothSides() {
        String both = "a0 0 0 5 50;a0 0 1 6 60;f;d0 1;d0 2;";
        told("alike", after(both), "");
        for (int o = 1; o < 3; o++) {
            told("another NAME", after(both, side(o, "r$ 1 9;")), "0 1 1");
            told("NAME 0", after(both, side(o, "r$ 1 0;")), "0 1 1");
            told("another TEXT", after(both, side(o, "e$ 1 9;")), "1 1 1");
            told("TEXT 0", after(both, side(o, "e$ 1 0;")), "1 1 1");
            due("NAME", after(both, "p" + o + ";", side(o, "r$ 1 0;")).of(3, 1, 2), 0);
            due("NAME", after(both, "p" + o + ";", side(3 - o, "r$ 1 0;")).of(3, 1, 2), 5);
            due("TEXT", after(both, "p" + o + ";", side(o, "e$ 1 0;")).of(3, 1, 3), 0);
            due("TEXT", after(both, "p" + o + ";", side(3 - o, "e$ 1 0;")).of(3, 1, 3), 50);
            told("the OTHER's PARENT", after(both, "p" + o + ";", side(o, "m$ 1 2 0;")), "2 1 0");
            told("the OTHER's PARENT", after(both, "p" + o + ";", side(3 - o, "m$ 1 2 0;")), "2 1 2");
            due("PARENT", after(both, "p" + o + ";", side(o, "m$ 1 2 0;")).of(3, 1, 0), 2);
            due("PARENT", after(both, "p" + o + ";", side(3 - o, "m$ 1 2 0;")).of(3, 1, 0), 0);
        }
        told("both otherwise, alike", after(both, "r1 1 9;r2 1 9;e1 1 9;e2 1 9;m1 1 2 0;m2 1 2 0;"), "");
    }

    static void elseItIsNot() {
        due("in BASE alone", after("a0 0 0 1 1;").has(3, 1), 0);
        told("in BASE alone", after("a0 0 0 1 1;"), "");
        due("deleted by both", after(TWO, "d1 1;d2 1;").has(3, 1), 0);
        told("deleted by both", after(TWO, "r1 1 9;d1 1;e2 1 9;d2 1;"), "");
        due("deleted by LEFT", after(TWO, "d1 1;").has(3, 1), 0);
        due("deleted by RIGHT", after(TWO, "d2 1;").has(3, 1), 0);
        due("a number that is free", after(TWO).has(3, 3), 0);
        due("all deleted by one", after("a0 0 0 1 1;a0 1 0 1 1;f;d2 1;").size(3, 0), 1);
    }

    // ---- (b), (c), (d)

    static void nameOfEither() {
        eitherValue('r', 2, 0);
    }

    static void textOfEither() {
        eitherValue('e', 3, 1);
    }

    /** Section 1 and the ROOT, that BASE has with 0. */
    private static void eitherValue(char letter, int what, int kind) {
        String base = "a0 0 0 0 0;f;";
        for (int s = 0; s < 2; s++) {
            String left = letter + "1 " + s + " ";
            String right = letter + "2 " + s + " ";
            String conflict = kind + " " + s + " " + s;
            value("as in BASE", after(base), s, what, 0, "");
            value("LEFT's", after(base, left + "99;"), s, what, 99, "");
            value("LEFT's, RIGHT being PREFERRED", after(base, "p2;", left + "99;"), s, what, 99, "");
            value("RIGHT's", after(base, right + "99;"), s, what, 99, "");
            value("RIGHT's, being PREFERRED", after(base, "p2;", right + "99;"), s, what, 99, "");
            value("both alike", after(base, left + "1;", right + "1;"), s, what, 1, "");
            value("both otherwise", after(base, left + "1;", right + "99;"), s, what, 1, conflict);
            value("both otherwise, RIGHT", after(base, "p2;", left + "1;", right + "99;"), s, what, 99, conflict);
            value("one is as in BASE again", after(base, left + "1;", right + "99;", left + "0;"), s, what, 99, "");
        }
        value("RIGHT has it not", after(base, "d2 1;", letter + "1 1 9;"), 1, what, 9, "3 1 1");
        value("LEFT has it not", after(base, "d1 1;", letter + "2 1 9;"), 1, what, 9, "3 1 1");
        value("RIGHT is PREFERRED and has it not", after(base, "p2;d2 1;", letter + "1 1 9;"), 1, what, 9, "3 1 1");
        char another = letter == 'r' ? 'e' : 'r';
        value("as in BASE in the one that has it", after(base, "d2 1;", another + "1 1 9;"), 1, what, 0, "3 1 1");
    }

    private static void value(String name, Used x, int s, int what, int want, String conflicts) {
        due(name, x.of(3, s, what), want);
        told(name, x, conflicts);
    }

    static void parentOfEither() {
        value("as in BASE", after(THREE), 3, 0, 0, "");
        value("LEFT's", after(THREE, "m1 3 1 0;"), 3, 0, 1, "");
        value("LEFT's, RIGHT being PREFERRED", after(THREE, "p2;m1 3 1 0;"), 3, 0, 1, "");
        value("RIGHT's", after(THREE, "m2 3 2 0;"), 3, 0, 2, "");
        value("both alike", after(THREE, "m1 3 1 0;m2 3 1 0;"), 3, 0, 1, "");
        value("both otherwise", after(THREE, "m1 3 1 0;m2 3 2 0;"), 3, 0, 1, "2 3 2");
        value("both otherwise, RIGHT", after(THREE, "p2;m1 3 1 0;m2 3 2 0;"), 3, 0, 2, "2 3 1");
        String onOne = "a0 0 0 1 1;a0 0 1 2 2;a0 1 0 3 3;f;";
        value("the ROOT is the OTHER's", after(onOne, "m1 3 2 0;m2 3 0 0;"), 3, 0, 2, "2 3 0");
        value("the ROOT is the PREFERRED's", after(onOne, "m1 3 0 0;m2 3 2 0;"), 3, 0, 0, "2 3 2");
        value("LEFT has it not", after(onOne, "d1 3;m2 3 2 0;"), 3, 0, 2, "3 3 3");
        value("RIGHT has it not", after(onOne, "d2 3;m1 3 2 0;"), 3, 0, 2, "3 3 3");
    }

    // ---- (e)

    static void aParentThatIsNotThere() {
        String chain = "a0 0 0 1 1;a0 1 0 2 2;a0 2 0 3 3;a0 3 0 4 4;f;";
        Used x = after(chain, "d1 4;e2 4 9;");
        told("its PARENT is there", x, "3 4 4");
        walks("its PARENT is there", x, 3, "0:-1 1:0 2:1 3:2 4:3");
        x = after(chain, "d1 3;e2 4 9;");
        told("the next one is there", x, "3 4 4, 4 4 3");
        walks("the next one is there", x, 3, "0:-1 1:0 2:1 4:2");
        x = after(chain, "d1 2;e2 4 9;");
        told("the one behind that is there", x, "3 4 4, 4 4 3");
        walks("the one behind that is there", x, 3, "0:-1 1:0 4:1");
        x = after(chain, "d1 1;e2 4 9;");
        told("the ROOT alone is there", x, "3 4 4, 4 4 3");
        walks("the ROOT alone is there", x, 3, "0:-1 4:0");
        x = after(chain, "d1 1;e2 4 9;e2 2 9;");
        told("two of them", x, "3 2 2, 3 4 4, 4 2 1, 4 4 3");
        walks("two of them", x, 3, "0:-1 2:0 4:2");
        x = after("a0 0 0 1 1;a0 0 1 2 2;m0 1 2 0;f;", "d1 2;e2 1 9;");
        told("the PARENT of the least number", x, "3 1 1, 4 1 2");
        walks("the PARENT of the least number", x, 3, "0:-1 1:0");
    }

    static void aParentFourteenUp() {
        Used x = after(Checks::chained);
        x.forks();
        x.deletes(1, 1);
        x.edits(2, 15, 99);
        told("14 are not there", x, "3 15 15, 4 15 14");
        walks("14 are not there", x, 3, "0:-1 15:0");
        x.renames(2, 1, 99);
        told("13 are not there", x, "3 1 1, 3 15 15, 4 15 14");
        walks("13 are not there", x, 3, "0:-1 1:0 15:1");
    }

    /** BASE has come to hang otherwise since the fork: as it is now counts. */
    static void goingOnByBasesParents() {
        Used x = after("a0 0 0 1 1;a0 1 0 2 2;a0 2 0 3 3;a0 0 1 4 4;f;", "m0 1 4 0;m1 1 4 0;m2 1 4 0;",
                "d1 1;e2 3 9;");
        told("1 hangs on 4 in BASE", x, "3 3 3, 4 3 2");
        walks("1 hangs on 4 in BASE", x, 3, "0:-1 4:0 3:4");
    }

    // ---- (f)

    static void noRing() {
        Used x = after(FOUR, "m1 1 2 0;m2 2 3 0;m1 3 4 0;");
        told("a chain of both sides' moves", x, "");
        walks("a chain of both sides' moves", x, 3, "0:-1 4:0 3:4 2:3 1:2");
    }

    static void aRingOfTwo() {
        Used x = after(FOUR, "m1 1 2 0;m2 2 1 0;");
        told("the OTHER's is put back", x, "5 2 1");
        walks("the OTHER's is put back", x, 3, "0:-1 2:0 1:2 3:0 4:0");
        run(x, "p2;");
        told("RIGHT being PREFERRED", x, "5 1 2");
        walks("RIGHT being PREFERRED", x, 3, "0:-1 1:0 2:1 3:0 4:0");
    }

    static void aRingOfFifteen() {
        Used x = after(Checks::flat);
        x.forks();
        for (int s = 1; s < 16; s++) {
            x.moves(s < 8 ? 1 : 2, s, s < 15 ? s + 1 : 1, 0);
        }
        told("8 is the least that RIGHT moved", x, "5 8 9");
        walks("8 is the least that RIGHT moved", x, 3,
                "0:-1 8:0 7:8 6:7 5:6 4:5 3:4 2:3 1:2 15:1 14:15 13:14 12:13 11:12 10:11 9:10");
        due("how deep", x.size(3, 1), 15);
        x.prefers(2);
        told("1 is the least that LEFT moved", x, "5 1 2");
        walks("1 is the least that LEFT moved", x, 3,
                "0:-1 1:0 15:1 14:15 13:14 12:13 11:12 10:11 9:10 8:9 7:8 6:7 5:6 4:5 3:4 2:3");
    }

    /** 14 sections in rings of two, each cut by its greater one; the ring with the least SECTION comes first. */
    static void sevenRings() {
        Used x = after(Checks::flat);
        x.forks();
        for (int s = 1; s < 8; s++) {
            x.moves(1, s, 15 - s, 0);
            x.moves(2, 15 - s, s, 0);
        }
        told("by the least of each", x, "5 14 1, 5 13 2, 5 12 3, 5 11 4, 5 10 5, 5 9 6, 5 8 7");
        x.prefers(2);
        told("RIGHT being PREFERRED", x, "5 1 14, 5 2 13, 5 3 12, 5 4 11, 5 5 10, 5 6 9, 5 7 8");
    }

    /** Section 1 hangs on a ring of 2 and 3: it is less than these, but not in the ring. */
    static void theLeastOfTheRingItself() {
        Used x = after(FOUR, "m1 1 2 0;m1 2 3 0;m2 3 2 0;");
        told("1 hangs on the ring", x, "5 3 2");
        walks("1 hangs on the ring", x, 3, "0:-1 3:0 2:3 1:2 4:0");
    }

    static void whoseParentIsThatOfTheOther() {
        told("moved by both alike", after(FOUR, "m1 1 2 0;m2 1 2 0;m1 2 3 0;m2 3 1 0;"), "5 1 2");
        told("moved by the PREFERRED alone", after(FOUR, "m1 1 2 0;m1 2 3 0;m2 3 1 0;"), "5 3 1");
        told("in dispute, the OTHER's is not its PARENT", after(FOUR, "m1 1 2 0;m2 1 4 0;m2 2 1 0;"),
                "2 1 4, 5 2 1");
    }

    static void notThatOfBase() {
        Used x = after("a0 0 0 1 1;a0 0 1 2 2;a0 0 2 3 3;m0 1 2 0;f;", "m1 2 3 0;m2 3 1 0;");
        told("1 hangs where BASE has it", x, "5 3 1");
        walks("3 is put back", x, 3, "0:-1 3:0 2:3 1:2");
    }

    static void inBaseAndInTheOther() {
        told("1 is not in BASE", after("a0 0 0 1 1;a0 0 1 2 2;f;d0 1;", "m1 1 2 0;m2 2 1 0;"), "2 1 0, 5 2 1");
        told("1 is in the OTHER and not in BASE", after("a0 0 0 1 1;a0 0 1 2 2;a0 0 2 3 3;f;d0 1;d1 1;",
                "m2 1 2 0;m2 3 1 0;m1 2 3 0;"), "5 3 1");
        told("1 is not in the OTHER", after("a0 0 0 1 1;a0 0 1 2 2;a0 0 2 3 3;a0 1 0 4 4;f;",
                "m1 1 3 0;m2 4 2 0;d2 1;m2 3 2 0;m1 2 4 0;"), "3 1 1, 5 4 2, 5 3 2");
    }

    static void putBackOnTheNearest() {
        Used x = after("a0 0 0 1 1;a0 1 0 2 2;a0 0 1 3 3;f;", "m2 2 3 0;d2 1;m1 3 2 0;");
        told("1 is not in MERGED, and no CONFLICT 4", x, "5 2 3");
        walks("2 hangs on the ROOT", x, 3, "0:-1 2:0 3:2");
        x = after("a0 0 0 1 1;a0 1 0 2 2;a0 2 0 3 3;a0 0 1 4 4;f;", "m2 3 4 0;d2 2;m1 4 3 0;");
        told("2 is not in MERGED, 1 is", x, "5 3 4");
        walks("3 hangs on 1", x, 3, "0:-1 1:0 3:1 4:3");
    }

    static void notYetPutBack() {
        Used x = after("a0 0 0 1 1;a0 1 0 2 2;a0 2 0 3 3;a0 0 1 4 4;f;", "m1 1 4 0;m2 3 1 0;d2 2;m2 4 3 0;");
        told("3 comes to where it was, then 4 goes", x, "5 3 1, 5 4 3");
        walks("the tree", x, 3, "0:-1 4:0 1:4 3:1");
    }

    static void ifThereIsNoneTheLeastGoesToTheRoot() {
        Used x = after("a0 0 0 1 1;a0 0 1 2 2;a0 0 2 3 3;a0 0 3 4 4;m0 1 4 0;f;",
                "m1 1 2 0;m1 2 3 0;m1 4 1 0;m2 1 2 0;m2 3 1 0;");
        told("1 is put back in vain, then cut", x, "5 1 2, 5 1 4");
        walks("1 is cut at the ROOT", x, 3, "0:-1 1:0 4:1 3:1 2:3");
        x = after("a0 0 0 1 1;a0 0 1 2 2;a0 0 2 3 3;a0 0 3 4 4;m0 4 1 0;f;",
                "m1 4 2 0;m1 2 3 0;m1 1 4 0;m2 4 2 0;m2 3 4 0;");
        told("of 3 and 4 the lesser, 1 is not in the ring", x, "5 3 4");
        x = after("a0 0 0 1 1;a0 0 1 2 2;a0 0 2 3 3;a0 0 3 4 4;m0 3 1 0;f;",
                "m1 3 2 0;m1 2 4 0;m1 1 3 0;m2 3 2 0;m2 4 3 0;");
        told("3 is put back on 1 that hangs on it: 1 is cut", x, "5 3 2, 5 1 3");
        walks("1 is cut at the ROOT", x, 3, "0:-1 1:0 3:1 4:3 2:4");
    }

    static void putBackAnewInEachMerging() {
        Used x = after("a0 0 0 1 1;a0 1 0 2 2;a0 2 0 3 3;a0 0 1 4 4;f;", "m1 1 4 0;m2 3 1 0;d2 2;m2 4 3 0;");
        told("once", x, "5 3 1, 5 4 3");
        run(x, "r0 0 1;");
        told("once more", x, "5 3 1, 5 4 3");
    }

    // ---- (g)

    static void keysOfThePreferred() {
        Used x = after(Checks::flat);
        x.forks();
        for (int s = 15; s > 0; s--) {
            x.moves(1, s, 0, 14);
        }
        order("LEFT is turned round", x, "0 15 14 13 12 11 10 9 8 7 6 5 4 3 2 1");
        x.prefers(2);
        order("RIGHT is as BASE", x, "0 1 2 3 4 5 6 7 8 9 10 11 12 13 14 15");
        due("the last place", x.of(3, 15, 1), 14);
    }

    static void keysOfTheOther() {
        order("place 0 of both", after("a2 0 0 1 1;a1 0 0 2 2;"), "0 2 1");
        order("place 0 of both, RIGHT being PREFERRED", after("a1 0 0 1 1;a2 0 0 2 2;p2;"), "0 2 1");
        order("behind place 1, ahead of place 2", after(THREE, "a2 0 1 4 4;"), "0 1 2 4 3");
        order("behind the last", after(THREE, "a2 0 3 4 4;"), "0 1 2 3 4");
        order("behind place 0, ahead of place 1", after(THREE, "a2 0 0 4 4;"), "0 1 4 2 3");
        order("of two of the OTHER the lesser place", after(THREE, "a2 0 3 4 4;a2 0 3 5 5;"), "0 1 2 3 5 4");
        order("its PARENT is another in the PREFERRED", after("a0 0 0 1 1;a0 0 1 2 2;a0 1 0 3 3;f;m2 3 0 0;"), "0 1 3 2");
    }

    static void elseTheKeyIs100() {
        Used x = new Used();
        x.adds(0, 0, 0, 1, 1);
        x.adds(0, 1, 0, 2, 2);
        for (int s = 3; s < 16; s++) {
            x.adds(0, 0, s - 2, s, s);
        }
        x.forks();
        x.deletes(1, 1);
        x.edits(2, 2, 99);
        order("2 comes last", x, "0 3 4 5 6 7 8 9 10 11 12 13 14 15 2");
        x.prefers(2);
        order("whichever is PREFERRED", x, "0 3 4 5 6 7 8 9 10 11 12 13 14 15 2");
        order("by number", after("a0 0 0 1 1;a0 1 0 2 2;a0 1 0 3 3;a0 1 0 4 4;f;", "d1 1;e2 2 9;e2 3 9;e2 4 9;"),
                "0 2 3 4");
        order("1 is put back on 4, where no side has it", after(
                "a0 0 0 1 1;a0 0 1 2 2;a0 0 2 3 3;a0 0 3 4 4;m0 1 4 0;a0 4 1 5 5;f;",
                "m1 1 2 0;m1 2 3 0;m2 1 2 0;m2 3 1 0;"), "0 4 5 1 3 2");
    }

    static void emptyAndFullMerged() {
        Used x = new Used();
        walks("empty", x, 3, "0:-1");
        due("adopted", x.adopts(), 1);
        x = after(Checks::filled);
        due("full", x.size(3, 0), 16);
        due("adopted", x.adopts(), 16);
        due("none is free", x.told(1), 16);
        x = new Used();
        for (int s = 1; s < 16; s++) {
            x.adds(1 + s % 2, 0, 0, s, s);
        }
        due("of both sides", x.size(3, 0), 16);
        due("how many children", x.of(3, 0, 4), 15);
        order("in turn", x, "0 14 15 12 13 10 11 8 9 6 7 4 5 2 3 1");
    }
}
