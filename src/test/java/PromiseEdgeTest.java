import java.math.BigInteger;

/** The edges that the sections of the promises name by themselves, promise by promise. EDGES.md has the sentences. */
public final class PromiseEdgeTest extends Checks {
    public static void main(String[] args) throws IllegalAccessException {
        runEdges(PromiseEdgeTest.class);
    }

    static void promise1ANewObject() {
        Used x = new Used();
        due("PREFERRED", x.told(0), 1);
        due("free", x.told(1), 1);
        due("matches", x.told(2) + x.told(3), 0);
        for (int what = 0; what < 5; what++) {
            due("refused " + what, x.refused(what), 0);
        }
        due("no STATE", x.back(), NO);
        due("conflicts", x.conflicts(NONE, 0), 0);
        due("LEFT's script", x.script(1, NONE, 0), 0);
        due("RIGHT's script", x.script(2, NONE, 0), 0);
        due("THE TEXT", x.clear(), 0);
        Used y = new Used();
        x.adds(0, 0, 0, 1, 1);
        x.prefers(2);
        due("another object", y.digest(), new Used().digest());
    }

    static void promise2Adds() {
        outside("p", 0, 15, p -> x -> x.adds(0, p, 0, 1, 1));
        refuses("p is in BASE alone", x -> x.adds(0, 0, 0, 1, 1), x -> x.adds(1, 1, 0, 1, 1), BAD);
        refuses("p was deleted", Checks::grown, x -> x.adds(2, 2, 0, 1, 1), BAD);
        refuses("p is the number that would come", Checks::grown, x -> x.adds(0, 5, 0, 1, 1), BAD);
        refuses("p is in MERGED and not in o", Checks::grown, x -> x.adds(0, 4, 0, 1, 1), BAD);
        leaves("p is the greatest in o", Checks::grown, x -> x.adds(2, 4, 0, 1, 1), 5);
        leaves("the last free number", x -> after15Less1(x), x -> x.adds(1, 14, 0, 99, 99), 15);
    }

    private static void after15Less1(Used x) {
        for (int s = 1; s < 15; s++) {
            x.adds(1, s - 1, 0, s, s);
        }
    }

    static void promise3Moves() {
        outside("s", 1, 15, s -> x -> x.moves(0, s, 0, 0));
        outside("p", 0, 15, p -> x -> x.moves(0, 1, p, 0));
        refuses("s is not there", Checks::grown, x -> x.moves(2, 2, 0, 0), BAD);
        refuses("p is not there", Checks::grown, x -> x.moves(2, 1, 2, 0), BAD);
        refuses("s is the ROOT", Checks::grown, x -> x.moves(2, 0, 1, 0), BAD);
        refuses("s and p are the ROOT", Checks::grown, x -> x.moves(2, 0, 0, 0), BAD);
        refuses("p is s", Checks::grown, x -> x.moves(2, 1, 1, 0), NO);
        refuses("p is a child of s", Checks::grown, x -> x.moves(1, 1, 3, 0), NO);
        leaves("p is a sister of s", Checks::grown, x -> x.moves(1, 3, 2, 0), 0);
        leaves("p is the PARENT of s", Checks::grown, x -> x.moves(1, 3, 1, 1), 0);
        leaves("p is the ROOT", Checks::grown, x -> x.moves(1, 2, 0, 0), 1);
        leaves("the place that it had", Checks::filled, x -> x.moves(0, 15, 0, 0), 14);
        leaves("the place that it had", Checks::filled, x -> x.moves(0, 1, 15, 0), 0);
    }

    static void promise4Renames() {
        outside("s", 0, 15, s -> x -> x.renames(0, s, 1));
        refuses("s is not there", Checks::grown, x -> x.renames(2, 2, 1), BAD);
        refuses("s is in another outline", Checks::grown, x -> x.renames(1, 4, 1), BAD);
        refuses("s never was", Checks::grown, x -> x.renames(0, 5, 1), BAD);
        leaves("what it was", Checks::filled, x -> x.renames(0, 15, 99), 15);
        leaves("what it was, the ROOT", Checks::filled, x -> x.renames(0, 0, 99), 0);
    }

    static void promise5Edits() {
        outside("s", 0, 15, s -> x -> x.edits(0, s, 1));
        refuses("s is not there", Checks::grown, x -> x.edits(2, 2, 1), BAD);
        refuses("s is in another outline", Checks::grown, x -> x.edits(1, 4, 1), BAD);
        refuses("s never was", Checks::grown, x -> x.edits(0, 5, 1), BAD);
        leaves("what it was", Checks::filled, x -> x.edits(0, 15, 99), 15);
        leaves("what it was, the ROOT", Checks::filled, x -> x.edits(0, 0, 99), 0);
    }

    static void promise6Deletes() {
        outside("s", 1, 15, s -> x -> x.deletes(0, s));
        refuses("s is not there", Checks::grown, x -> x.deletes(2, 2), BAD);
        refuses("s is in another outline", Checks::grown, x -> x.deletes(0, 4), BAD);
        refuses("s never was", Checks::grown, x -> x.deletes(0, 5), BAD);
        refuses("twice", x -> x.deletes(0, x.adds(0, 0, 0, 1, 1)), x -> x.deletes(0, 1), BAD);
        leaves("one", Checks::grown, x -> x.deletes(2, 4), 1);
        leaves("with all BELOW", Checks::grown, x -> x.deletes(1, 1), 3);
    }

    static void promise7Forks() {
        leaves("the ROOT alone", Checks::empty, x -> x.forks(), 1);
        leaves("some", Checks::grown, x -> x.forks(), 4);
        leaves("all", Checks::flat, x -> x.forks(), 16);
        Used x = after(Checks::grown);
        x.forks();
        for (int o = 1; o < 3; o++) {
            due("as BASE", x.alike(0, o), 4);
            due("no more", x.size(o, 0), 4);
        }
        due("4 is gone", x.has(2, 4), 0);
        due("MERGED", x.alike(0, 3), 4);
        x = after("a1 0 0 1 1;a2 0 0 2 2;f;");
        due("LEFT is empty", x.size(1, 0), 1);
        due("RIGHT is empty", x.size(2, 0), 1);
    }

    static void promise8Prefers() {
        outside("k", 1, 2, k -> x -> x.prefers(k));
        leaves("1", Checks::grown, x -> x.prefers(1), 1);
        leaves("2", Checks::grown, x -> x.prefers(2), 1);
        leaves("1 again", x -> x.prefers(2), x -> x.prefers(1), 2);
        leaves("2 again", x -> x.prefers(2), x -> x.prefers(2), 2);
    }

    static void promise9Adopts() {
        leaves("the ROOT alone", Checks::empty, x -> x.adopts(), 1);
        leaves("some", Checks::grown, x -> x.adopts(), 5);
        leaves("all", Checks::filled, x -> x.adopts(), 16);
        Used x = after(Checks::grown);
        String merged = walked(x, 3);
        x.adopts();
        for (int o = 0; o < 4; o++) {
            walks("as MERGED was", x, o, merged);
            due("alike", x.alike(0, o), 5);
        }
        due("no conflict", x.conflicts(NONE, 0), 0);
        due("no script", x.script(1, NONE, 0) + x.script(2, NONE, 0), 0);
        x = after("a0 0 0 1 1;r0 0 9;");
        due("BASE's own is lost", x.adopts(), 1);
        due("the ROOT's NAME", x.of(0, 0, 2), 0);
    }

    static void promise10Has() {
        for (int s = 0; s < 5; s++) {
            int number = s;
            asks("BASE", Checks::grown, x -> x.has(0, number), number < 4 ? 1 : 0);
            asks("LEFT", Checks::grown, x -> x.has(1, number), number < 4 ? 1 : 0);
            asks("RIGHT", Checks::grown, x -> x.has(2, number), number != 2 ? 1 : 0);
            asks("MERGED", Checks::grown, x -> x.has(3, number), 1);
        }
        asks("a number that is free", Checks::grown, x -> x.has(3, 5), 0);
    }

    static void promise11Of() {
        int[][] wants = {{NONE, 0, 0, 0, 2, 5}, {0, 0, 20, 11, 2, 3}, {1, 1, 12, 9, 0, 1}, {1, 0, 14, 15, 0, 1},
            {0, 1, 30, 31, 0, 1}};
        for (int s = 0; s < 5; s++) {
            for (int what = 0; what < 6; what++) {
                int number = s;
                int asked = what;
                asks("MERGED's " + s + ", " + what, Checks::grown, x -> x.of(3, number, asked), wants[s][what]);
            }
        }
        for (int outline = 0; outline < 4; outline++) {
            int o = outline;
            outside("what", 0, 5, what -> x -> x.of(o, 0, what));
            refuses("it is not there", Checks::grown, x -> x.of(o, 5, 0), BAD);
            refuses("it is not there, and what", Checks::grown, x -> x.of(o, 5, 6), BAD);
        }
        refuses("it was deleted", Checks::grown, x -> x.of(2, 2, 5), BAD);
        refuses("it is in another outline", Checks::grown, x -> x.of(1, 4, 4), BAD);
        asks("fifteen children", Checks::filled, x -> x.of(3, 0, 4), 15);
        asks("sixteen BELOW", Checks::filled, x -> x.of(3, 0, 5), 16);
    }

    static void promise12Walk() {
        for (int outline = 0; outline < 4; outline++) {
            int o = outline;
            asks("the first", Checks::empty, x -> x.walk(o, 0), 0);
            asks("behind the ROOT alone", Checks::empty, x -> x.walk(o, 1), NONE);
            asks("the last of all", Checks::filled, x -> x.walk(o, 15), 15);
            asks("behind all", Checks::filled, x -> x.walk(o, 16), NONE);
            asks("far behind", Checks::filled, x -> x.walk(o, MOST), NONE);
            asks("far behind", Checks::empty, x -> x.walk(o, MOST), NONE);
            refusesEverywhere("i below 0", x -> x.walk(o, -1), BAD);
            refusesEverywhere("i far below 0", x -> x.walk(o, LEAST), BAD);
        }
        walks("ahead of its children, these by places", after("a0 0 0 1 1;a0 1 0 2 2;a0 1 0 3 3;a0 0 0 4 4;a0 4 0 5 5;"), 0,
                "0:-1 4:0 5:4 1:0 3:1 2:1");
        Used x = after(Checks::chained);
        due("the last of a chain", x.walk(0, 15), 15);
        due("behind a chain", x.walk(0, 16), NONE);
    }

    static void promise13Size() {
        for (int outline = 0; outline < 4; outline++) {
            int o = outline;
            outside("what", 0, 1, what -> x -> x.size(o, what));
            asks("the ROOT alone", Checks::empty, x -> x.size(o, 0), 1);
            asks("the ROOT alone is 0 deep", Checks::empty, x -> x.size(o, 1), 0);
            asks("all", Checks::filled, x -> x.size(o, 0), 16);
            asks("all on the ROOT are 1 deep", Checks::filled, x -> x.size(o, 1), 1);
        }
        asks("a chain is 15 deep", Checks::chained, x -> x.size(0, 1), 15);
        asks("the deeper of two", Checks::grown, x -> x.size(2, 1) + 10 * x.size(1, 1), 21);
    }

    static void promise14Alike() {
        asks("the ROOT alone", Checks::empty, x -> x.alike(0, 3), 1);
        asks("none", x -> x.renames(0, 0, 1), x -> x.alike(0, 1), 0);
        asks("all", Checks::filled, x -> x.alike(3, 0), 16);
        for (String other : new String[] {"m1 2 0 2;", "r1 2 9;", "e1 2 9;", "m1 2 1 1;"}) {
            Used x = after("a0 0 0 1 1;a0 1 0 2 2;a0 1 1 3 3;a0 0 1 4 4;f;", other);
            due("one is other: " + other, x.alike(0, 1) < 5 ? 1 : 0, 1);
            due("the same the other way", x.alike(1, 0), x.alike(0, 1));
        }
        due("PARENT alone", after("a0 0 0 1 1;a0 1 0 2 2;a0 0 1 3 3;f;m1 2 3 0;").alike(0, 1), 3);
        due("place alone", after("a0 0 0 1 1;a0 0 1 2 2;a0 0 2 3 3;f;m1 2 0 2;").alike(0, 1), 2);
        due("NAME alone", after("a0 0 0 1 1;f;r1 1 2;").alike(0, 1), 1);
        due("TEXT alone", after("a0 0 0 1 1;f;e1 1 2;").alike(0, 1), 1);
        due("in one of them", after("a0 0 0 1 1;").alike(0, 1), 1);
    }

    static void promise15Conflicts() {
        asks("how many, none", Checks::empty, x -> x.conflicts(NONE, 0), 0);
        asks("the first of none", Checks::empty, x -> x.conflicts(0, 0), NOT_SO_MANY);
        asks("how many", Checks::grown, x -> x.conflicts(NONE, 0), 2);
        int[][] wants = {{3, 2, 2}, {0, 1, 1}, {NOT_SO_MANY, NOT_SO_MANY, NOT_SO_MANY}};
        for (int i = 0; i < 3; i++) {
            for (int what = 0; what < 3; what++) {
                int row = i;
                int asked = what;
                asks("conflict " + i, Checks::grown, x -> x.conflicts(row, asked), wants[i][what]);
                asks("far behind", Checks::grown, x -> x.conflicts(MOST, asked), NOT_SO_MANY);
            }
        }
        refusesEverywhere("i below -1", x -> x.conflicts(-2, 0), BAD);
        refusesEverywhere("i far below -1", x -> x.conflicts(LEAST, 0), BAD);
        refusesEverywhere("i NONE and what 1", x -> x.conflicts(NONE, 1), BAD);
        refusesEverywhere("i NONE and what 2", x -> x.conflicts(NONE, 2), BAD);
        outside("i NONE", 0, 0, what -> x -> x.conflicts(NONE, what));
        outside("of the first", 0, 2, what -> x -> x.conflicts(0, what));
        outside("behind the last", 0, 2, what -> x -> x.conflicts(99, what));
    }

    static void promise16Script() {
        for (int side = 1; side < 3; side++) {
            int o = side;
            asks("how many, none", Checks::empty, x -> x.script(o, NONE, 0), 0);
            asks("the first of none", Checks::empty, x -> x.script(o, 0, 1), NOT_SO_MANY);
            asks("how many", Checks::grown, x -> x.script(o, NONE, 0), 3);
            asks("behind the last", Checks::grown, x -> x.script(o, 3, 0), NOT_SO_MANY);
            asks("behind the last", Checks::grown, x -> x.script(o, 3, 1), NOT_SO_MANY);
            asks("far behind", Checks::grown, x -> x.script(o, MOST, 1), NOT_SO_MANY);
            refusesEverywhere("i below -1", x -> x.script(o, -2, 0), BAD);
            refusesEverywhere("i far below -1", x -> x.script(o, LEAST, 0), BAD);
            outside("i NONE", 0, 0, what -> x -> x.script(o, NONE, what));
            outside("of the first", 0, 1, what -> x -> x.script(o, 0, what));
            outside("behind the last", 0, 1, what -> x -> x.script(o, 99, what));
        }
        outside("o", 1, 2, o -> x -> x.script(o, NONE, 0));
        scripted("LEFT", after(Checks::grown), 1, "4 1, 5 2, 3 3");
        scripted("RIGHT", after(Checks::grown), 2, "4 1, 2 2, 1 4");
    }

    static void promise17Matches() {
        for (int side = 1; side < 3; side++) {
            int o = side;
            refusesEverywhere("the ROOT", x -> x.matches(o, 0), BAD);
            outside("s", 1, 15, s -> x -> x.matches(o, s));
            refuses("s never was", Checks::grown, x -> x.matches(o, 5), BAD);
            asks("the first", Checks::filled, x -> x.matches(o, 1), 1);
            asks("the last", Checks::filled, x -> x.matches(o, 15), 15);
        }
        outside("o", 1, 2, o -> x -> x.matches(o, 1));
        refuses("s was deleted", Checks::grown, x -> x.matches(2, 2), BAD);
        refuses("s is of the other side", Checks::grown, x -> x.matches(1, 4), BAD);
        refuses("s is of BASE", x -> x.adds(0, 0, 0, 1, 1), x -> x.matches(1, 1), BAD);
        asks("none", x -> x.adds(1, 0, 0, 1, 1), x -> x.matches(1, 1), NONE);
    }

    static void promise18Told() {
        outside("what", 0, 3, what -> x -> x.told(what));
        asks("PREFERRED", Checks::grown, x -> x.told(0), 1);
        asks("PREFERRED", x -> x.prefers(2), x -> x.told(0), 2);
        asks("the first is free", Checks::empty, x -> x.told(1), 1);
        asks("the last is free", x -> after15Less1(x), x -> x.told(1), 15);
        asks("none is free", Checks::filled, x -> x.told(1), 16);
        asks("none of LEFT", Checks::filled, x -> x.told(2), 0);
        asks("none of RIGHT", Checks::filled, x -> x.told(3), 0);
        asks("one of LEFT", x -> run(x, "a0 0 0 1 1;a1 0 0 1 1;"), x -> x.told(2) * 10 + x.told(3), 10);
        asks("one of RIGHT", x -> run(x, "a0 0 0 1 1;a2 0 0 1 1;"), x -> x.told(2) * 10 + x.told(3), 1);
    }

    static void promise19Type() {
        due("the first byte", new Used().type('f'), 1);
        refuses("FULL: 150", Checks::filled, x -> x.type(' '), FULL);
        Used x = after(Checks::filled);
        x.clear();
        types(x, " ".repeat(149));
        due("the 150th", x.type(0), 150);
        due("the 151st", x.type(0), FULL);
    }

    static void promise20Clear() {
        asks("none", Checks::empty, x -> x.clear(), 0);
        Used x = after(Checks::filled);
        Used twin = after(Checks::filled);
        due("150", x.clear(), 150);
        differs("THE TEXT alone", x, twin, 3, -150);
        due("none", x.clear(), 0);
        differs("THE TEXT alone", x, twin, 3, -150);
        due("states", x.back(), twin.back());
        differs("what was kept", x, twin, 3, -150);
    }

    static void promise21Does() {
        leaves("one ORDER", x -> types(x, "p2;"), x -> x.does(), 1);
        leaves("75 ORDERS", Checks::filled, x -> x.does(), 75);
        due("the least FAULT", doesText(new Used(), ""), -10);
        due("the greatest FAULT", doesText(new Used(), " ".repeat(150)), -160);
        due("the first ORDER", doesText(new Used(), "p0;"), -1000);
        due("the last ORDER that can be refused", doesText(new Used(), "f;".repeat(73) + "p3;"), -1073);
        asks("a FAULT leaves no STATE", x -> types(x, "p2;p"), x -> x.does(), -14);
        asks("an ORDER that ends all leaves no STATE", x -> types(x, "p2;p3;"), x -> x.does(), -1001);
    }

    static void promise22Back() {
        refuses("none", Checks::empty, x -> x.back(), NO);
        refuses("none any more", x -> {
            x.renames(0, 0, 1);
            x.back();
        }, x -> x.back(), NO);
        refuses("none by a call that is not told S", x -> x.type('f'), x -> x.back(), NO);
        Used x = after(Checks::filled);
        for (int left = 4; left >= 0; left--) {
            due("how many can be yet", x.back(), left);
        }
        due("NO", x.back(), NO);
        due("eleven sections are left", x.size(0, 0), 12);
        due("counted", x.refused(1), 1);
    }

    static void promise23Refused() {
        outside("what", 0, 4, what -> x -> x.refused(what));
        int[] wants = {0, 0, 0, 150, 5};
        for (int what = 0; what < 5; what++) {
            int asked = what;
            asks("at first", Checks::empty, x -> x.refused(asked), 0);
            asks("filled", Checks::filled, x -> x.refused(asked), wants[asked]);
        }
        Used x = new Used();
        due("BAD", x.refused(5), BAD);
        due("itself is counted", x.refused(0), 1);
        due("BAD", x.refused(-1), BAD);
        due("itself is counted", x.refused(0), 2);
    }

    /** With numbers that have no end, cut to 64 bits at the end alone. */
    static void promise24Digest() {
        due("a new object", new Used().digest(), longDigest(new Used()));
        due("grown", after(Checks::grown).digest(), longDigest(after(Checks::grown)));
        Used x = after(Checks::chained);
        Used twin = after(Checks::chained);
        due("a chain", x.digest(), longDigest(twin));
        due("twice the same", x.digest(), x.digest());
        x = after(Checks::flat);
        twin = after(Checks::flat);
        x.told(9);
        twin.told(9);
        due("one refused", x.digest(), longDigest(twin));
        asks("it counts nothing and leaves nothing", Checks::grown, y -> y.digest() == 0 ? 1 : 0, 0);
    }

    private static long longDigest(Used x) {
        BigInteger h = BigInteger.valueOf(1703);
        for (int what = 0; what < 5; what++) {
            h = mix(h, x.refused(what));
        }
        for (int what = 0; what < 4; what++) {
            h = mix(h, x.told(what));
        }
        for (int o = 0; o < 4; o++) {
            int count = x.size(o, 0);
            h = mix(mix(h, count), x.size(o, 1));
            for (int i = 0; i < count; i++) {
                int s = x.walk(o, i);
                h = mix(h, s);
                for (int what = 0; what < 4; what++) {
                    h = mix(h, x.of(o, s, what));
                }
            }
        }
        int conflicts = x.conflicts(NONE, 0);
        h = mix(h, conflicts);
        for (int i = 0; i < conflicts; i++) {
            for (int what = 0; what < 3; what++) {
                h = mix(h, x.conflicts(i, what));
            }
        }
        return mix(mix(h, x.script(1, NONE, 0)), x.script(2, NONE, 0)).longValue();
    }

    private static BigInteger mix(BigInteger h, int v) {
        return h.multiply(BigInteger.valueOf(31)).add(BigInteger.valueOf(v));
    }
}
