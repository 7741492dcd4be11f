import java.util.HashSet;
import java.util.Random;
import java.util.Set;

/**
 * The first words of the document, "What it is", held against many outlines that were edited at random (the same ones
 * each time): what must hold of all of them, whatever was done.
 */
public final class WhatItIsTest extends Checks {
    private static final int RUNS = 4000;
    private static final int SECTIONS = 16, OUTLINES = 4, MERGED = 3;
    private static final int PARENT = 0, PLACE = 1, NAME = 2, TEXT = 3;
    /* Behind the acts an object is asked for all of its outlines, so they leave room for that. */
    private static final int CALLS_TO_ASK = 390;

    private final Random dice;
    private final Used x = new Used();
    private final int[][][] traits = new int[OUTLINES][SECTIONS][];

    private WhatItIsTest(long seed) {
        dice = new Random(seed);
        edit();
        for (int o = 0; o < OUTLINES; o++) {
            look(o);
        }
    }

    public static void main(String[] args) {
        for (long seed = 1; seed <= RUNS; seed++) {
            at = "outlines " + seed;
            WhatItIsTest run = new WhatItIsTest(seed);
            for (int o = 0; o < OUTLINES; o++) {
                run.alwaysATree(o);
            }
            run.noneLostThatWasChanged();
            run.whatBothDidOtherwiseSettledByThePreferred();
            switch ((int) (seed % 3)) {
                case 0 -> run.theMergedOneAdopted();
                case 1 -> run.takenBack();
                default -> run.toldInAText();
            }
        }
        end("WhatItIsTest");
    }

    private void edit() {
        for (int i = dice.nextInt(12); i >= 0; i--) {
            x.adds(0, dice.nextInt(i + 1), 0, dice.nextInt(4), dice.nextInt(4));
            x.adds(0, 0, 0, dice.nextInt(4), dice.nextInt(4));
        }
        x.forks();
        boolean tangled = dice.nextBoolean();
        while (x.callsLeft() > CALLS_TO_ASK) {
            int o = dice.nextInt(9) == 0 ? 0 : 1 + dice.nextInt(2);
            int s = dice.nextInt(SECTIONS);
            switch (dice.nextInt(tangled ? 60 : 14)) {
                case 0 -> x.adds(o, s, 0, dice.nextInt(4), dice.nextInt(4));
                case 1 -> x.renames(o, s, dice.nextInt(4));
                case 2 -> x.edits(o, s, dice.nextInt(4));
                case 3 -> x.deletes(o, s);
                case 4 -> x.prefers(1 + dice.nextInt(2));
                default -> x.moves(o, s, dice.nextInt(SECTIONS), dice.nextInt(2));
            }
        }
    }

    /** The traits of each section that is there; null for one that is not. */
    private void look(int o) {
        for (int s = 0; s < SECTIONS; s++) {
            int parent = x.of(o, s, PARENT);
            if (parent != BAD) {
                traits[o][s] = new int[] {parent, x.of(o, s, PLACE), x.of(o, s, NAME), x.of(o, s, TEXT)};
            }
        }
    }

    private int count(int o) {
        int sum = 0;
        for (int[] section : traits[o]) {
            sum += section != null ? 1 : 0;
        }
        return sum;
    }

    /** Every section hangs, by parents that are there, on the ROOT, and the children of each have places 0, 1, .. */
    private void alwaysATree(int o) {
        Set<Integer> places = new HashSet<>();
        int[] children = new int[SECTIONS];
        for (int s = 1; s < SECTIONS; s++) {
            if (traits[o][s] == null) {
                continue;
            }
            due("section " + s + " of outline " + o + " hangs on the ROOT", topOf(o, s), 0);
            int p = traits[o][s][PARENT];
            children[p]++;
            due("a place of outline " + o + " is had once", places.add(p * SECTIONS + traits[o][s][PLACE]) ? 1 : 0, 1);
        }
        for (int p = 0; p < SECTIONS; p++) {
            for (int k = 0; k < children[p]; k++) {
                due("place " + k + " of " + p + " in outline " + o, places.contains(p * SECTIONS + k) ? 1 : 0, 1);
            }
        }
    }

    private int topOf(int o, int s) {
        int q = s;
        for (int step = 0; step < SECTIONS && q > 0; step++) {
            q = traits[o][q] == null ? NONE : traits[o][q][PARENT];
        }
        return q;
    }

    private boolean isChanged(int o, int s) {
        int[] was = traits[0][s];
        int[] is = traits[o][s];
        if (was == null || is == null) {
            return is != null;
        }
        return was[PARENT] != is[PARENT] || was[NAME] != is[NAME] || was[TEXT] != is[TEXT];
    }

    private void noneLostThatWasChanged() {
        for (int o = 1; o <= 2; o++) {
            for (int s = 0; s < SECTIONS; s++) {
                if (isChanged(o, s)) {
                    due("section " + s + " that outline " + o + " changed is in MERGED", traits[MERGED][s] != null ? 1 : 0, 1);
                }
            }
        }
        for (int s = 0; s < SECTIONS; s++) {
            boolean isAnywhere = traits[1][s] != null || traits[2][s] != null;
            due("section " + s + " comes from nowhere", traits[MERGED][s] != null && !isAnywhere ? 1 : 0, 0);
        }
    }

    private void whatBothDidOtherwiseSettledByThePreferred() {
        int preferred = x.told(0);
        int disputes = 0;
        for (int s = 0; s < SECTIONS; s++) {
            int[] first = traits[preferred][s];
            int[] second = traits[3 - preferred][s];
            if (traits[MERGED][s] == null || first == null || second == null) {
                continue;
            }
            for (int what = NAME; what <= TEXT; what++) {
                boolean isAsBase = traits[0][s] != null && first[what] == traits[0][s][what];
                due("trait " + what + " of " + s, traits[MERGED][s][what], isAsBase ? second[what] : first[what]);
                boolean otherIsAsBase = traits[0][s] != null && second[what] == traits[0][s][what];
                disputes += !isAsBase && !otherIsAsBase && first[what] != second[what] ? 1 : 0;
            }
        }
        int told = 0;
        int conflicts = x.conflicts(NONE, 0);
        for (int i = 0; i < conflicts; i++) {
            told += x.conflicts(i, 0) <= 1 ? 1 : 0;
        }
        due("disputes about NAMES and TEXTS are told", told, disputes);
    }

    private void theMergedOneAdopted() {
        int count = count(MERGED);
        due("adopts", x.adopts(), count);
        for (int o = 0; o < MERGED; o++) {
            due("outline " + o + " is as MERGED", x.alike(o, MERGED), count);
            due("outline " + o + " has no more", x.size(o, 0), count);
        }
        due("no conflict", x.conflicts(NONE, 0), 0);
        due("nothing that LEFT did", x.script(1, NONE, 0), 0);
        due("nothing that RIGHT did", x.script(2, NONE, 0), 0);
        due("a trait of MERGED is as it was", x.of(MERGED, 0, NAME), traits[MERGED][0][NAME]);
    }

    private void takenBack() {
        int preferred = x.told(0);
        for (int i = 0; i < 5; i++) {
            x.prefers(preferred);
        }
        long was = x.digest();
        x.adopts();
        due("back", x.back(), 4);
        x.prefers(preferred);
        due("all is as it was", x.digest(), was);
    }

    private void toldInAText() {
        Used twin = new Used();
        Used told = new Used();
        for (int i = 0; i < 5; i++) {
            int p = dice.nextInt(i + 1);
            int v = dice.nextInt(100);
            due("adds", twin.adds(0, p, 0, v, i), i + 1);
            types(told, "a0 " + p + " 0 " + v + " " + i + ";");
        }
        twin.forks();
        twin.moves(1, 5, 0, 0);
        twin.deletes(2, 2);
        types(told, "f;m1 5 0 0;d2 2;");
        due("orders", told.does(), 8);
        for (int o = 0; o < OUTLINES; o++) {
            due("outline " + o, walked(told, o), walked(twin, o));
        }
    }
}
