/** The edges that 'Terms' names in MATCHES and in THE SCRIPT. EDGES.md has the sentences. */
public final class MatchEdgeTest extends Checks {
    public static void main(String[] args) throws IllegalAccessException {
        runEdges(MatchEdgeTest.class);
    }

    // ---- MATCHES

    static void numbersAreNotAsked() {
        Used x = after("a0 0 0 1 1;a0 0 1 2 2;f;r1 1 2;e1 1 2;r1 2 1;e1 2 1;");
        due("1 looks like 2", x.matches(1, 1), 2);
        due("2 looks like 1", x.matches(1, 2), 1);
        due("RIGHT's are themselves", x.matches(2, 1), 1);
    }

    static void neitherIsTheRoot() {
        for (int o = 1; o < 3; o++) {
            Used x = after("a" + o + " 0 0 0 0;");
            due("BASE has the ROOT alone", x.matches(o, 1), NONE);
            due("the ROOT is not asked for", x.matches(o, 0), BAD);
            due("none", x.told(1 + o), 0);
            x = after("a0 0 0 0 0;");
            due("the side has the ROOT alone", x.matches(o, 0), BAD);
            due("none", x.told(1 + o), 0);
        }
    }

    /**
     * Every likeness with every other. So that places differ, BASE has a sister behind 1 and the side its image ahead
     * of the one that is asked for: these two match by NAME and TEXT, ahead of all that they have with others. The
     * PARENTS' TEXTS are alike where their NAMES are not, for they must not count.
     */
    static void scoresOf3OrMore() {
        for (int likeness = 0; likeness < 16; likeness++) {
            boolean place = (likeness & 1) != 0;
            boolean text = (likeness & 2) != 0;
            boolean parent = (likeness & 4) != 0;
            boolean name = (likeness & 8) != 0;
            int score = (place ? 1 : 0) + (text ? 2 : 0) + (parent ? 2 : 0) + (name ? 4 : 0);
            for (int o = 1; o < 3; o++) {
                Used x = new Used();
                x.adds(0, 0, 0, 10, 20);
                if (!place) {
                    x.adds(0, 0, 1, 88, 89);
                    x.adds(o, 0, 0, 88, 89);
                }
                x.renames(o, 0, parent ? 0 : 9);
                x.edits(0, 0, 77);
                x.edits(o, 0, parent ? 78 : 77);
                int s = x.adds(o, 0, place ? 0 : 1, name ? 10 : 50, text ? 20 : 60);
                due("SCORE " + score, x.matches(o, s), score >= 3 ? 1 : NONE);
                due("told", x.told(1 + o), (score >= 3 ? 1 : 0) + (place ? 0 : 1));
            }
        }
    }

    static void fallingScores() {
        due("9 ahead of 8", after("a0 0 0 1 1;", "a1 0 0 1 1;a1 0 0 1 1;").matches(1, 3), 1);
        due("8 behind 9", after("a0 0 0 1 1;", "a1 0 0 1 1;a1 0 0 1 1;").matches(1, 2), NONE);
        String four = "r1 0 9;a0 0 0 1 1;a0 0 1 2 2;a0 0 2 3 3;";
        due("4 ahead of 3", after(four, "a1 0 0 9 1;a1 0 1 1 9;").matches(1, 5), 1);
        due("3 behind 4", after(four, "a1 0 0 9 1;a1 0 1 1 9;").matches(1, 4), NONE);
        due("5 ahead of 4", after(four, "a1 0 0 2 9;a1 0 1 2 9;").matches(1, 5), 2);
        due("6 ahead of 5", after(four, "a1 0 0 1 9;a1 0 1 1 1;").matches(1, 5), 1);
        due("7 ahead of 6", after(four, "a1 0 0 2 2;a1 0 1 2 2;").matches(1, 5), 2);
    }

    /** The ROOTS' NAMES differ, so NAME alone is 4, and place alone, 1, makes no match. */
    static void ofLikeOnesTheLesser() {
        String base = "r1 0 9;a0 0 0 5 1;a0 0 1 5 2;";
        Used x = after(base, "a1 0 0 90 91;a1 0 1 92 93;a1 0 2 5 94;a1 0 3 5 95;");
        due("the lesser b", x.matches(1, 5), 1);
        due("then the next one", x.matches(1, 6), 2);
        x = after(base, "a1 0 0 90 91;a1 0 1 92 93;a1 0 2 5 94;a1 0 2 5 95;");
        due("the lesser s, whatever its place", x.matches(1, 5), 1);
        due("then the next one", x.matches(1, 6), 2);
        x = after(base, "a1 0 0 90 91;a1 0 1 92 93;a1 0 2 5 94;");
        due("one of BASE is left", x.matches(1, 5), 1);
    }

    static void ifNeitherIsInOneYet() {
        Used x = after("a0 0 0 5 5;", "a2 0 0 5 5;a2 0 1 5 5;a2 0 2 5 5;");
        due("one matches", x.matches(2, 2), 1);
        due("b is in one", x.matches(2, 3), NONE);
        due("b is in one", x.matches(2, 4), NONE);
        x = after("a0 0 0 5 5;a0 0 1 5 5;a0 0 2 5 5;", "a2 0 0 5 5;");
        due("s is in one", x.matches(2, 4), 1);
        due("told", x.told(3), 1);
    }

    static void allFifteenMatch() {
        Used x = after(Checks::filled);
        for (int s = 1; s < 16; s++) {
            due("itself", x.matches(1, s), s);
        }
        due("none that is another", x.told(2), 0);
        for (int s = 1; s < 16; s++) {
            x.renames(2, s, 16 - s);
            x.edits(2, s, 16 - s);
        }
        for (int s = 1; s < 16; s++) {
            due("the one from the other end", x.matches(2, s), 16 - s);
        }
        due("all but 8", x.told(3), 14);
        due("LEFT's, as they were", x.told(2), 0);
    }

    // ---- THE SCRIPT

    static void anEmptyScript() {
        for (int o = 1; o < 3; o++) {
            scripted("a new object", new Used(), o, "");
            scripted("alike", after(Checks::filled), o, "");
            scripted("another place alone", after("a0 0 0 1 1;a0 0 1 1 1;f;m1 1 0 1;m2 1 0 1;"), o, "");
        }
    }

    static void addedAndDeleted() {
        for (int o = 1; o < 3; o++) {
            scripted("all of BASE DELETED", after("a0 0 0 1 1;a0 1 0 2 2;"), o, "2 1, 2 2");
            scripted("ADDED alone", after("a" + o + " 0 0 1 1;a" + o + " 1 0 2 2;"), o, "1 1, 1 2");
            scripted("in neither", after("a" + o + " 0 0 1 1;d" + o + " 1;"), o, "");
            scripted("the number 15", after("a0 0 0 1 1;".repeat(13), "a0 0 0 1 1;a" + o + " 0 0 1 1;f;d" + o + " 14;"),
                    o, "2 14");
        }
        Used x = after(Checks::flat);
        due("fifteen DELETED", x.script(2, NONE, 0), 15);
        due("the last of them", x.script(2, 14, 1), 15);
        due("its kind", x.script(2, 14, 0), 2);
    }

    static void theRootFirst() {
        for (int o = 1; o < 3; o++) {
            String own = "a0 0 0 1 1;f;r$ 1 9;r$ 0 9;".replace("$", String.valueOf(o));
            scripted("RENAMED", after(own), o, "4 0, 4 1");
            String text = "a0 0 0 1 1;f;e$ 1 9;e$ 0 9;".replace("$", String.valueOf(o));
            scripted("another TEXT", after(text), o, "5 0, 5 1");
            String both = "a0 0 0 1 1;f;e$ 0 9;r$ 0 9;d$ 1;".replace("$", String.valueOf(o));
            scripted("both", after(both), o, "4 0, 5 0, 2 1");
        }
    }

    /** Each section but the ROOT is MOVED, all are RENAMED and have another TEXT. */
    static void theLongestScript() {
        Used x = new Used();
        x.adds(0, 0, 0, 1, 1);
        for (int s = 2; s < 16; s++) {
            x.adds(0, 1, 0, 1, 1);
        }
        x.forks();
        for (int s = 2; s < 16; s++) {
            x.moves(1, s, 0, 0);
        }
        x.moves(1, 1, 2, 0);
        for (int s = 0; s < 16; s++) {
            x.renames(1, s, 9);
            x.edits(1, s, 9);
        }
        due("how many", x.script(1, NONE, 0), 47);
        due("the ROOT's", x.script(1, 0, 0) + " " + x.script(1, 1, 0), "4 5");
        for (int i = 2; i < 47; i++) {
            due("kind " + i, x.script(1, i, 0), 3 + (i - 2) % 3);
            due("SECTION " + i, x.script(1, i, 1), 1 + (i - 2) / 3);
        }
        due("behind the last", x.script(1, 47, 0), NOT_SO_MANY);
        due("behind the last", x.script(1, 47, 1), NOT_SO_MANY);
        due("RIGHT's", x.script(2, NONE, 0), 0);
    }
}
