/** The edges that 'Terms' names in STATES and in what is refused. EDGES.md has the sentences. */
public final class StateEdgeTest extends Checks {
    public static void main(String[] args) throws IllegalAccessException {
        runEdges(StateEdgeTest.class);
    }

    static void eachCallToldSLeavesOne() {
        leaves("adds", Checks::grown, x -> x.adds(1, 1, 0, 1, 1), 5);
        leaves("moves", Checks::grown, x -> x.moves(1, 2, 0, 1), 1);
        leaves("renames", Checks::grown, x -> x.renames(1, 2, 50), 12);
        leaves("edits", Checks::grown, x -> x.edits(1, 2, 50), 9);
        leaves("deletes", Checks::grown, x -> x.deletes(1, 1), 3);
        leaves("forks", Checks::grown, x -> x.forks(), 4);
        leaves("prefers", Checks::grown, x -> x.prefers(2), 1);
        leaves("adopts", Checks::grown, x -> x.adopts(), 5);
        leaves("does", Checks::grown, x -> x.does(), 2);
        leaves("adds, the first STATE", Checks::empty, x -> x.adds(1, 0, 0, 1, 1), 1);
        leaves("forks, the first STATE", Checks::empty, x -> x.forks(), 1);
        leaves("adopts, the first STATE", Checks::empty, x -> x.adopts(), 1);
        leaves("prefers, the first STATE", Checks::empty, x -> x.prefers(2), 1);
        leaves("renames, the first STATE", Checks::empty, x -> x.renames(0, 0, 1), 0);
        leaves("edits, the first STATE", Checks::empty, x -> x.edits(0, 0, 1), 0);
    }

    static void othersLeaveNone() {
        asks("has", Checks::grown, x -> x.has(3, 1), 1);
        asks("of", Checks::grown, x -> x.of(3, 1, 2), 20);
        asks("walk", Checks::grown, x -> x.walk(3, 1), 1);
        asks("size", Checks::grown, x -> x.size(3, 1), 2);
        asks("alike", Checks::grown, x -> x.alike(0, 3), 1);
        asks("conflicts", Checks::grown, x -> x.conflicts(NONE, 0), 2);
        asks("script", Checks::grown, x -> x.script(1, NONE, 0), 3);
        asks("matches", Checks::grown, x -> x.matches(1, 3), 3);
        asks("told", Checks::grown, x -> x.told(1), 5);
        asks("refused", Checks::grown, x -> x.refused(4), 5);
        asks("digest", Checks::grown, x -> x.digest() == x.digest() ? 1 : 0, 1);
        Used x = new Used();
        x.type('f');
        x.type(';');
        due("type", x.refused(4), 0);
        x.clear();
        due("clear", x.refused(4), 0);
        due("does, with a FAULT", x.does(), -10);
        due("does, with a FAULT", x.refused(4), 0);
        due("does, an ORDER ends all", doesText(x, "f;p0;"), -1001);
        due("does, an ORDER ends all", x.refused(4), 0);
    }

    static void alsoIfNothingBecomesOther() {
        leaves("moves", Checks::grown, x -> x.moves(1, 2, 1, 1), 1);
        leaves("renames", Checks::grown, x -> x.renames(1, 1, 20), 20);
        leaves("edits", Checks::grown, x -> x.edits(1, 1, 11), 11);
        leaves("forks", Checks::empty, x -> x.forks(), 1);
        leaves("forks", Checks::filled, x -> x.forks(), 16);
        leaves("prefers", Checks::empty, x -> x.prefers(1), 1);
        leaves("adopts", Checks::empty, x -> x.adopts(), 1);
        leaves("adopts", Checks::filled, x -> x.adopts(), 16);
        leaves("does", Checks::filled, x -> x.does(), 75);
        Used x = new Used();
        for (int i = 1; i <= 5; i++) {
            x.prefers(1);
            due("each leaves one", x.refused(4), i);
        }
    }

    static void ifItIsNotRefused() {
        Used x = new Used();
        x.adds(3, 0, 0, 0, 0);
        x.moves(0, 1, 0, 0);
        x.renames(0, 0, 100);
        x.edits(0, 0, 100);
        x.deletes(0, 0);
        x.prefers(0);
        x.back();
        due("no STATE", x.refused(4), 0);
        due("BAD", x.refused(0), 6);
        due("NO", x.refused(1), 1);
        due("none can be gone back to", x.back(), NO);
    }

    static void allButTheTextAndHowOften() {
        Used x = after(Checks::grown);
        Used twin = after(Checks::grown);
        x.deletes(0, 1);
        x.type('x');
        x.told(9);
        x.back();
        due("states", x.refused(4), 4);
        due("bytes stay", x.refused(3), twin.refused(3) + 1);
        due("how often stays", x.refused(0), twin.refused(0) + 1);
        due("the outline is back", x.has(0, 1), 1);
        x.clear();
        types(x, "r0 1 33;f;");
        twin.told(9);
        differs("all else is back", x, twin, 4, -1);
        Used y = after(Checks::filled);
        y.adds(0, 0, 0, 1, 1);
        y.type('f');
        y.moves(0, 1, 1, 0);
        y.back();
        due("FULL twice", y.refused(2), 2);
        due("NO once", y.refused(1), 1);
        due("150 bytes", y.refused(3), 150);
        due("clear is not taken back", y.clear(), 150);
        y.back();
        due("empty", y.refused(3), 0);
    }

    static void preferredAndFreeNumbersGoBack() {
        Used x = new Used();
        x.prefers(2);
        x.adds(1, 0, 0, 1, 1);
        x.prefers(1);
        x.adds(2, 0, 0, 1, 1);
        due("free", x.told(1), 3);
        x.back();
        due("free", x.told(1), 2);
        due("PREFERRED", x.told(0), 1);
        x.back();
        due("PREFERRED", x.told(0), 2);
        x.back();
        due("free", x.told(1), 1);
        x.back();
        due("PREFERRED", x.told(0), 1);
    }

    /** The NAME of the ROOT counts the acts; behind n of them the last five can be taken back. */
    static void fiveAtMost() {
        for (int n = 0; n <= 12; n++) {
            Used x = new Used();
            for (int i = 1; i <= n; i++) {
                x.renames(0, 0, i);
                due("states behind " + i, x.refused(4), Math.min(i, 5));
            }
            for (int left = Math.min(n, 5) - 1; left >= 0; left--) {
                due("how many can be yet", x.back(), left);
            }
            due("as it was", x.of(0, 0, 2), Math.max(n - 5, 0));
            due("older ones are lost", x.back(), NO);
            due("as it was, still", x.of(0, 0, 2), Math.max(n - 5, 0));
            due("states", x.refused(4), 0);
        }
    }

    static void backAndOnAgain() {
        Used x = new Used();
        for (int i = 1; i <= 7; i++) {
            x.renames(0, 0, i);
        }
        x.back();
        x.back();
        x.back();
        due("back to 4", x.of(0, 0, 2), 4);
        due("two are left", x.refused(4), 2);
        for (int i = 14; i <= 16; i++) {
            x.renames(0, 0, i);
        }
        due("five again", x.refused(4), 5);
        int[] names = {15, 14, 4, 3, 2};
        for (int i = 0; i < 5; i++) {
            due("how many can be yet", x.back(), 4 - i);
            due("what was kept", x.of(0, 0, 2), names[i]);
        }
        due("none", x.back(), NO);
        x.renames(0, 0, 50);
        due("one again", x.refused(4), 1);
        due("back", x.back(), 0);
        due("what was kept", x.of(0, 0, 2), 2);
    }

    static void oneStateForAllOrders() {
        Used x = after("r0 0 1;r0 0 2;r0 0 3;r0 0 4;r0 0 5;r0 0 6;r0 0 7;");
        due("one", x.refused(4), 1);
        due("back over all of them", x.back(), 0);
        due("what was kept", x.of(0, 0, 2), 0);
        for (int i = 0; i < 6; i++) {
            x.does();
        }
        due("five", x.refused(4), 5);
    }

    static void mergedGoesBackToo() {
        Used x = after("a0 0 0 1 1;a0 0 1 2 2;f;", "r1 1 8;r2 1 9;");
        due("asked for", x.of(3, 1, 2), 8);
        x.prefers(2);
        due("RIGHT's", x.of(3, 1, 2), 9);
        x.back();
        due("LEFT's", x.of(3, 1, 2), 8);
        x.back();
        due("BASE's", x.of(3, 1, 2), 1);
        due("no conflict", x.conflicts(NONE, 0), 0);
        x.back();
        due("the ROOT alone", x.size(3, 0), 1);
    }

    /** Each call with one number that is not as told; getters count, too. */
    static void anyCallCanBeRefused() {
        Used x = new Used();
        int[] answers = {x.adds(9, 0, 0, 0, 0), x.moves(9, 0, 0, 0), x.renames(9, 0, 0), x.edits(9, 0, 0),
            x.deletes(9, 0), x.prefers(9), x.has(9, 0), x.of(9, 0, 0), x.walk(9, 0), x.size(9, 0), x.alike(9, 0),
            x.conflicts(0, 9), x.script(9, 0, 0), x.matches(9, 0), x.told(9), x.type(999), x.refused(9)};
        for (int i = 0; i < answers.length; i++) {
            due("answer " + i, answers[i], BAD);
        }
        due("counted", x.refused(0), answers.length);
        due("NO", x.refused(1), 0);
        due("FULL", x.refused(2), 0);
    }

    static void theFirstOfBadNoFull() {
        refuses("moves: k, and p is BELOW s", Checks::grown, x -> x.moves(0, 1, 2, 1), BAD);
        refuses("moves: k below 0, and p is BELOW s", Checks::grown, x -> x.moves(0, 1, 2, -1), BAD);
        refuses("moves: p is BELOW s alone", Checks::grown, x -> x.moves(0, 1, 2, 0), NO);
        refuses("moves: k, and p is s", Checks::grown, x -> x.moves(1, 1, 1, 3), BAD);
        refuses("moves: p is s, the last place", Checks::grown, x -> x.moves(1, 1, 1, 2), NO);
        refuses("moves: the ROOT on one BELOW it", Checks::grown, x -> x.moves(1, 0, 1, 0), BAD);
        refuses("adds: a number, none being free", Checks::filled, x -> x.adds(0, 0, 0, 0, -1), BAD);
        refuses("adds: none is free", Checks::filled, x -> x.adds(0, 0, 0, 0, 0), FULL);
        refuses("type: a byte, THE TEXT being full", Checks::filled, x -> x.type(128), BAD);
        refuses("type: THE TEXT is full", Checks::filled, x -> x.type(127), FULL);
        refuses("back: there is none", Checks::empty, x -> x.back(), NO);
    }

    static void byDoesNothingCounts() {
        Used x = after(Checks::flat);
        int[] answers = {doesText(x, "p0;"), doesText(x, "m0 1 1 0;"), doesText(x, "a0 0 0 1 1;"), doesText(x, "x"),
            doesText(x, "p"), doesText(x, "")};
        int[] wants = {-1000, -1000, -1000, -10, -11, -10};
        for (int i = 0; i < answers.length; i++) {
            due("answer " + i, answers[i], wants[i]);
        }
        for (int what = 0; what < 3; what++) {
            due("counted", x.refused(what), 0);
        }
        due("states", x.refused(4), 5);
    }

    static void byTypeAsByAnyCall() {
        Used x = after(Checks::filled);
        x.type('x');
        x.type(-1);
        x.type(128);
        due("FULL", x.refused(2), 1);
        due("BAD", x.refused(0), 2);
        due("NO", x.refused(1), 0);
    }
}
