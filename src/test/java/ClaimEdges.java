/** The edges of twins, claims, and images: of the terms' third part, promises 22 to 25, 28 and 29. */
final class ClaimEdges {
    private static final int LOW = Integer.MIN_VALUE, HIGH = Integer.MAX_VALUE;

    private ClaimEdges() {
    }

    static void run() {
        anotherNumberForEach();
        turnedByTheNewNumbers();
        hiddenLikewise();
        twinRefusedAtFirst();
        twinRefusedByNumbers();
        twinFull();
        twentyClaims();
        stepsOfClaims();
        claimRefused();
        standsAtFirst();
        twiceTheSteps();
        brokenByFewer();
        noLessThanItWas();
        triesRefused();
        claimTold();
        imageOfSome();
        goneSinceTheImage();
        claimsOfGoneOnes();
        backRefused();
    }

    private static void clause(HiddenWorks x, int t, int c, int plain, int against) {
        Check.due("plain of " + t, x.clauseTold(t, c, 0), plain);
        Check.due("against of " + t, x.clauseTold(t, c, 1), against);
    }

    private static void anotherNumberForEach() {
        Doc.term("A TWIN by a SHEET (for each letter another number, each once)");
        HiddenWorks x = new HiddenWorks();
        Check.wild(x, 2, 3, 1, 2, 4, 0);
        int[][] orders = {{0, 1, 2}, {0, 2, 1}, {1, 0, 2}, {1, 2, 0}, {2, 0, 1}, {2, 1, 0}};
        for (int i = 0; i < 6; i++) {
            int[] o = orders[i];
            Check.sheet(x, 0, i % 3, o);
            Check.due("a twin", x.twin(0, 0, 0), i + 1);
            clause(x, i + 1, 0, 1 << o[0], 1 << o[1]);
            clause(x, i + 1, 1, 1 << o[2], 0);
            Check.due("as many clauses", x.taskTold(i + 1, 2), 2);
            Check.due("of the same kind", x.taskTold(i + 1, 0), 2);
        }
        HiddenWorks y = new HiddenWorks();
        Check.wild(y, 0, 1, 1, 0);
        Check.wild(y, 0, 10, 513, 256);
        Check.sheet(y, 0, 0, 0);
        Check.due("of one letter", y.twin(0, 0, 0), 2);
        Check.sheet(y, 0, 0, 9, 8, 7, 6, 5, 4, 3, 2, 1, 0);
        Check.due("of ten", y.twin(1, 0, 0), 3);
        clause(y, 3, 0, 513, 2);
        Check.wild(y, 0, 10);
        Check.due("of no clauses", y.twin(4, 0, 1023), 5);
        Check.due("it has none", y.taskTold(5, 2), 0);
    }

    private static void turnedByTheNewNumbers() {
        Doc.term("and TURNED letters (bits, by the new numbers): letters have their new numbers, TURNED ones stand the other way "
            + "round,");
        HiddenWorks x = new HiddenWorks();
        Check.wild(x, 0, 3, 1, 2, 4, 0);
        Check.sheet(x, 0, 2, 1, 2, 0);
        int[][] due = {{2, 4, 1, 0}, {2, 4, 0, 1}, {0, 6, 1, 0}, {0, 6, 0, 1}, {6, 0, 1, 0}, {6, 0, 0, 1}, {4, 2, 1, 0}};
        for (int turned = 0; turned < 7; turned++) {
            Check.due("turned " + turned, x.twin(0, 0, turned), turned + 1);
            clause(x, turned + 1, 0, due[turned][0], due[turned][1]);
            clause(x, turned + 1, 1, due[turned][2], due[turned][3]);
        }
        HiddenWorks y = new HiddenWorks();
        Check.wild(y, 0, 10, 512, 3);
        Check.sheet(y, 0, 2, 0, 1, 2, 3, 4, 5, 6, 7, 8, 9);
        y.twin(0, 0, 1023);
        clause(y, 1, 0, 3, 512);
    }

    private static void hiddenLikewise() {
        Doc.term("HIDDEN likewise (if there is one).");
        boolean[] seen = new boolean[2];
        for (int seed = 0; seed < 20; seed++) {
            HiddenWorks x = new HiddenWorks();
            Check.recipe(x, "k0 n2 c24 w2 0 0 1");
            x.make(0, seed);
            int hidden = x.taskTold(0, 3), swapped = hidden >> 1 | (hidden & 1) << 1;
            seen[hidden & 1] |= hidden != swapped;
            Check.sheet(x, 0, 2, 1, 0);
            for (int turned = 0; turned < 4; turned++) {
                Check.due("a twin", x.twin(0, 0, turned), turned + 1);
                Check.due("hidden in it", x.taskTold(turned + 1, 3), swapped ^ turned);
                Check.due("that solves it", x.solves(turned + 1, swapped ^ turned), -1);
                Check.due("no recipe", x.taskTold(turned + 1, 4), -1);
                Check.due("no seed", x.taskTold(turned + 1, 5), -1);
            }
        }
        Check.due("one letter was true, either", seen[0] && seen[1]);
        HiddenWorks x = new HiddenWorks();
        Check.wild(x, 0, 2, 1, 0);
        Check.sheet(x, 0, 2, 1, 0);
        x.twin(0, 0, 3);
        Check.due("nothing hidden", x.taskTold(1, 3), -1);
    }

    private static void twinRefusedAtFirst() {
        Doc.promise(22, "A TWIN: its number. NONE: TASK, SHEET; -11;");
        HiddenWorks x = new HiddenWorks();
        Check.due("no task, the sheet is missing", x.twin(0, 0, 0), -1);
        Check.wild(x, 0, 1, 1, 0);
        x.sheet(3, -1, 0);
        for (int t : new int[] {-1, 1, 8, LOW, HIGH}) {
            Check.due("task " + t, x.twin(t, 0, 0), -1);
        }
        for (int s : new int[] {-1, 4, LOW, HIGH}) {
            Check.due("sheet " + s, x.twin(0, s, 0), -1);
            Check.due("sheet " + s + ", ahead of turned", x.twin(0, s, 2), -1);
        }
        for (int s = 0; s < 4; s++) {
            Check.due("missing " + s, x.twin(0, s, 0), -11);
            Check.due("ahead of turned", x.twin(0, s, 2), -11);
            Check.sheet(x, s, 2, 0);
            Check.due("there it is", x.twin(0, s, 0), s + 1);
        }
    }

    private static void twinRefusedByNumbers() {
        Doc.promise(22, "BAD: its size, TURNED, a number;");
        HiddenWorks x = new HiddenWorks();
        Check.wild(x, 0, 3, 1, 0);
        for (int[] wrong : new int[][] {{}, {0}, {0, 1}, {0, 1, 2, 3}, {0, 1, 2, 0}, new int[40], {0, 0, 1}, {0, 1, 1},
            {2, 1, 2}, {0, 1, 3}, {1, 2, 3}, {-1, 0, 1}, {0, 1, LOW}, {0, HIGH, 2}, {32, 1, 2}, {0, 33, 2}}) {
            Check.sheet(x, 0, 2, wrong);
            Check.due("numbers of size " + wrong.length, x.twin(0, 0, 0), -2);
        }
        Check.sheet(x, 0, 2, 2, 0, 1);
        for (int turned : new int[] {-1, 8, LOW, HIGH}) {
            Check.due("turned " + turned, x.twin(0, 0, turned), -2);
        }
        Check.due("none came", x.count(0), 1);
        Check.due("the first", x.twin(0, 0, 0), 1);
        Check.due("the last", x.twin(0, 0, 7), 2);
    }

    private static void twinFull() {
        Doc.promise(22, "BAD: its size, TURNED, a number; FULL.");
        HiddenWorks x = new HiddenWorks();
        Check.wild(x, 0, 2, 1, 0);
        Check.sheet(x, 0, 2, 1, 0);
        for (int t = 1; t < 8; t++) {
            Check.due("a twin", x.twin(t - 1, 0, t % 4), t);
        }
        Check.due("full", x.twin(0, 0, 0), -4);
        Check.due("turned ahead", x.twin(0, 0, 4), -2);
        Check.sheet(x, 0, 2, 1, 1);
        Check.due("a number ahead", x.twin(0, 0, 0), -2);
        Check.sheet(x, 0, 2, 0);
        Check.due("the size ahead", x.twin(0, 0, 0), -2);
        Check.due("missing ahead", x.twin(0, 1, 0), -11);
        Check.due("the sheet ahead", x.twin(0, 4, 0), -1);
        Check.due("the task ahead", x.twin(8, 0, 0), -1);
    }

    private static void twentyClaims() {
        Doc.term("CLAIMS are numbered from 0 on, 20 at most: a TASK,");
        HiddenWorks x = new HiddenWorks();
        Check.wild(x, 0, 1, 1, 0);
        Check.wild(x, 0, 1, 1, 0);
        for (int k = 0; k < 20; k++) {
            Check.due("a claim", x.claim(k % 2, k + 1), k);
        }
        Check.due("one more", x.claim(0, 1), -4);
        Check.due("twenty are kept", x.count(2), 20);
        for (int k = 0; k < 20; k++) {
            Check.due("its task", x.claimTold(k, 0), k % 2);
            Check.due("its steps", x.claimTold(k, 1), k + 1);
        }
        Check.due("none behind them", x.claimTold(20, 0), -5);
    }

    private static void stepsOfClaims() {
        Doc.term("so many steps (1 .. 2000);");
        HiddenWorks x = new HiddenWorks();
        Check.wild(x, 0, 1, 1, 0);
        Check.due("the least", x.claim(0, 1), 0);
        Check.due("the most", x.claim(0, 2000), 1);
        for (int steps : new int[] {0, 2001, -1, LOW, HIGH}) {
            Check.due(steps + " steps", x.claim(0, steps), -2);
        }
        Check.due("none of them came", x.count(2), 2);
        Check.due("the most is told", x.claimTold(1, 1), 2000);
    }

    private static void claimRefused() {
        Doc.promise(23, "A CLAIM: its number. NONE: TASK; BAD: steps; FULL.");
        HiddenWorks x = new HiddenWorks();
        Check.due("no task at all", x.claim(0, 1), -1);
        Check.wild(x, 0, 1, 1, 0);
        for (int t : new int[] {-1, 1, 8, LOW, HIGH}) {
            Check.due("task " + t, x.claim(t, 1), -1);
            Check.due("task " + t + ", ahead of the steps", x.claim(t, 0), -1);
        }
        for (int k = 0; k < 20; k++) {
            Check.due("a claim", x.claim(0, 1), k);
        }
        Check.due("full", x.claim(0, 2000), -4);
        Check.due("the steps ahead", x.claim(0, 2001), -2);
        Check.due("the task ahead", x.claim(1, 1), -1);
    }

    private static void state(HiddenWorks x, int k, int state, int by) {
        Check.due("state of " + k, x.claimTold(k, 2), state);
        Check.due("by which of " + k, x.claimTold(k, 3), by);
    }

    private static void standsAtFirst() {
        Doc.term("STATE 0 STANDS, 1 SHAKEN, 2 BROKEN; by which FINDER (-1 at first).");
        HiddenWorks x = new HiddenWorks();
        Check.wild(x, 0, 1, 1, 0);
        x.claim(0, 1);
        x.claim(0, 2);
        x.claim(0, 3);
        for (int k = 0; k < 3; k++) {
            state(x, k, 0, -1);
        }
        Check.due("found in 1 of 1", x.tries(0, 0), 1);
        Check.due("found in 1 of 2", x.tries(1, 0), 2);
        state(x, 0, 1, 0);
        state(x, 1, 2, 0);
        state(x, 2, 0, -1);
    }

    /** Searching takes 11 steps where there are no clauses over ten letters. */
    private static void twiceTheSteps() {
        Doc.term("A FINDER is set on one, with twice the steps as a limit:");
        HiddenWorks x = new HiddenWorks();
        Check.wild(x, 0, 10);
        x.claim(0, 5);
        x.claim(0, 6);
        Check.due("not within 10", x.tries(0, 3), 0);
        state(x, 0, 0, -1);
        Check.due("within 12", x.tries(1, 3), 1);
        state(x, 1, 1, 3);
        // Row 511 alone solves this one: all places but the last are looked at, 2046.
        int[] last = new int[36];
        for (int l = 0; l < 9; l++) {
            last[4 * l] = 1 << l | 512;
            last[4 * l + 2] = 1 << l;
            last[4 * l + 3] = 512;
        }
        Check.wild(x, 0, 10, last);
        int[] claimed = {1022, 1023, 2000}, due = {0, 1, 1};
        for (int i = 0; i < 3; i++) {
            Check.due("a claim", x.claim(1, claimed[i]), 2 + i);
            Check.due("within twice " + claimed[i], x.tries(2 + i, 3), due[i]);
            state(x, 2 + i, due[i], due[i] == 0 ? -1 : 3);
        }
        Check.due("counts: one step alone", x.tries(0, 0), 2);
    }

    /** Searching finds in 6 steps, climbing in 3. */
    private static void brokenByFewer() {
        Doc.term("if it finds, it is BROKEN by fewer steps than claimed, else SHAKEN");
        HiddenWorks x = new HiddenWorks();
        Check.wild(x, 0, 3, 1, 0, 6, 1);
        int[] claimed = {2, 3, 5, 6, 7, 2000}, search = {0, 1, 1, 1, 2, 2};
        for (int k = 0; k < 6; k++) {
            x.claim(0, claimed[k]);
            Check.due("6 of " + claimed[k], x.tries(k, 3), search[k]);
            state(x, k, search[k], search[k] == 0 ? -1 : 3);
        }
        int[] fewer = {1, 2, 3, 4}, climb = {0, 1, 1, 2};
        for (int k = 0; k < 4; k++) {
            x.claim(0, fewer[k]);
            Check.due("3 of " + fewer[k], x.tries(6 + k, 1), climb[k]);
            state(x, 6 + k, climb[k], climb[k] == 0 ? -1 : 1);
        }
        Check.wild(x, 0, 1, 1, 0, 0, 1);
        x.claim(1, 2000);
        for (int finder = 0; finder < 4; finder++) {
            Check.due("nothing solves: it stands", x.tries(10, finder), 0);
        }
        state(x, 10, 0, -1);
    }

    private static void noLessThanItWas() {
        Doc.term("(no less than it was): by that one, if it is more than it was.");
        HiddenWorks x = new HiddenWorks();
        Check.wild(x, 0, 3, 1, 0, 6, 1);
        x.claim(0, 3);
        x.claim(0, 3);
        x.claim(0, 4);
        Check.due("6 of 3", x.tries(0, 3), 1);
        Check.due("3 of 3, not more", x.tries(0, 1), 1);
        state(x, 0, 1, 3);
        Check.due("3 of 3", x.tries(1, 1), 1);
        Check.due("6 of 3, not more", x.tries(1, 3), 1);
        state(x, 1, 1, 1);
        Check.due("found by counts? no: no less", x.tries(1, 0), 1);
        state(x, 1, 1, 1);
        Check.due("6 of 4", x.tries(2, 3), 1);
        Check.due("3 of 4, more", x.tries(2, 1), 2);
        state(x, 2, 2, 1);
    }

    private static void triesRefused() {
        Doc.promise(24, "A FINDER is set on a CLAIM: its STATE then. NONE; BAD; STATE (-3): it is BROKEN.");
        HiddenWorks x = new HiddenWorks();
        Check.due("no claim at all", x.tries(0, 0), -1);
        Check.wild(x, 0, 1, 1, 0);
        x.claim(0, 2);
        for (int k : new int[] {-1, 1, 20, LOW, HIGH}) {
            Check.due("claim " + k, x.tries(k, 0), -1);
            Check.due("claim " + k + ", ahead of the finder", x.tries(k, 4), -1);
        }
        for (int finder : new int[] {-1, 4, LOW, HIGH}) {
            Check.due("finder " + finder, x.tries(0, finder), -2);
        }
        state(x, 0, 0, -1);
        Check.due("broken", x.tries(0, 0), 2);
        for (int finder = 0; finder < 4; finder++) {
            Check.due("it is broken", x.tries(0, finder), -3);
        }
        for (int finder : new int[] {-1, 4, LOW, HIGH}) {
            Check.due("the finder ahead of it", x.tries(0, finder), -2);
        }
        state(x, 0, 2, 0);
        for (int k = 1; k < 20; k++) {
            x.claim(0, 1);
        }
        Check.due("the last claim, the last finder", x.tries(19, 3), 0);
    }

    private static void claimTold() {
        Doc.promise(25, "Of a CLAIM what 0 TASK, 1 steps, 2 STATE, 3 by which FINDER (-1). -5: no such CLAIM; -7: what.");
        HiddenWorks x = new HiddenWorks();
        Check.due("none at all", x.claimTold(0, 0), -5);
        Check.wild(x, 0, 1);
        Check.wild(x, 0, 1, 1, 0);
        x.claim(1, 2000);
        int[] due = {1, 2000, 0, -1};
        for (int what = 0; what < 4; what++) {
            Check.due("what " + what, x.claimTold(0, what), due[what]);
        }
        for (int what : new int[] {-1, 4, LOW, HIGH}) {
            Check.due("what " + what, x.claimTold(0, what), -7);
        }
        for (int k : new int[] {-1, 1, 20, LOW, HIGH}) {
            Check.due("claim " + k, x.claimTold(k, 0), -5);
            Check.due("claim " + k + ", ahead of what", x.claimTold(k, 4), -5);
        }
    }

    private static void imageOfSome() {
        Doc.promise(28, "AN IMAGE is kept: how many TASKS.");
        HiddenWorks x = new HiddenWorks();
        Check.due("of none", x.image(), 0);
        for (int t = 1; t <= 8; t++) {
            Check.wild(x, 0, 1, 1, 0);
            Check.due("of " + t, x.image(), t);
        }
        Check.due("again", x.image(), 8);
        Check.due("back at the last one", x.back(), 8);
    }

    private static void goneSinceTheImage() {
        Doc.term("AN IMAGE keeps how many TASKS there are; back at it those that came since are gone,");
        for (int kept = 0; kept <= 8; kept++) {
            HiddenWorks x = new HiddenWorks();
            for (int t = 0; t < 8; t++) {
                if (t == kept) {
                    x.image();
                }
                Check.wild(x, t % 6, 1, 1, 0);
            }
            if (kept == 8) {
                x.image();
            }
            Check.due("back at " + kept, x.back(), kept);
            Check.due("so many are left", x.count(0), kept);
            Check.due("the last of them", x.taskTold(kept - 1, 0), kept == 0 ? -5 : (kept - 1) % 6);
            Check.due("none behind it", x.taskTold(kept, 0), -5);
            Check.due("the next one", Check.wild(x, 1, 1, 1, 0), kept == 8 ? -4 : kept);
            Check.due("back once more", x.back(), kept);
        }
    }

    private static void claimsOfGoneOnes() {
        Doc.term("and all CLAIMS of them (the others in their order).");
        HiddenWorks x = new HiddenWorks();
        Check.wild(x, 0, 1, 1, 0);
        x.image();
        Check.wild(x, 0, 1, 1, 0);
        Check.wild(x, 0, 1, 1, 0);
        int[] tasks = {1, 0, 2, 0, 0, 1, 2, 0, 1, 1, 0, 2, 2, 1, 0, 0, 0, 1, 2, 0};
        int kept = 0;
        for (int k = 0; k < 20; k++) {
            Check.due("a claim", x.claim(tasks[k], k + 1), k);
        }
        for (int k = 2; k < 20; k++) {
            x.tries(k, k < 4 ? 3 : 0);
        }
        x.back();
        for (int k = 0; k < 20; k++) {
            if (tasks[k] == 0) {
                Check.due("its task", x.claimTold(kept, 0), 0);
                Check.due("its steps", x.claimTold(kept, 1), k + 1);
                state(x, kept, k < 2 ? 0 : 2, k < 2 ? -1 : k < 4 ? 3 : 0);
                kept++;
            }
        }
        Check.due("so many are left", x.count(2), kept);
        Check.due("none behind them", x.claimTold(kept, 0), -5);
        Check.due("the next one", x.claim(0, 2000), kept);
        state(x, kept, 0, -1);
        Check.wild(x, 0, 1, 1, 0);
        Check.due("the claims of gone ones are not of new ones", x.count(2), kept + 1);
        x.image();
        x.back();
        Check.due("none is gone", x.count(2), kept + 1);
        HiddenWorks y = new HiddenWorks();
        y.image();
        Check.wild(y, 0, 1, 1, 0);
        y.claim(0, 1);
        y.back();
        Check.due("none is left", y.count(2), 0);
    }

    private static void backRefused() {
        Doc.promise(29, "Back at THE IMAGE: how many TASKS. STATE: there is none.");
        HiddenWorks x = new HiddenWorks();
        Check.due("none", x.back(), -3);
        Check.wild(x, 0, 1, 1, 0);
        x.claim(0, 1);
        Check.due("none yet", x.back(), -3);
        Check.due("the task stays", x.count(0), 1);
        Check.due("the claim stays", x.count(2), 1);
        x.image();
        Check.due("one", x.back(), 1);
        Check.wild(x, 0, 1, 1, 0);
        Check.due("it is kept", x.back(), 1);
        Check.recipe(x, "k0 n1 c1 w1 0 1");
        Check.feed(x, "k0");
        x.back();
        Check.due("recipes stay", x.count(1), 1);
        Check.due("the tape stays", x.count(3), 2);
    }
}
