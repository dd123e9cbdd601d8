/** Promises 22 to 25, 28 and 29: twins, claims, images. */
final class ClaimTest {
    private ClaimTest() {
    }

    static void run() {
        twins();
        twinsOfMade();
        twinRefusals();
        claiming();
        shakenAndBroken();
        twiceTheSteps();
        images();
    }

    private static void twins() {
        HiddenWorks x = new HiddenWorks();
        Check.wild(x, 5, 3, 3, 4, 4, 0);
        Check.sheet(x, 0, 0, 2, 0, 1);
        Check.due("twin", x.twin(0, 0, 0), 1);
        int[] plain = {5, 2}, against = {2, 0};
        int[] turnedPlain = {3, 0}, turnedAgainst = {4, 2};
        Check.due("twin turned", x.twin(0, 0, 6), 2);
        for (int c = 0; c < 2; c++) {
            Check.due("plain", x.clauseTold(1, c, 0), plain[c]);
            Check.due("against", x.clauseTold(1, c, 1), against[c]);
            Check.due("turned plain", x.clauseTold(2, c, 0), turnedPlain[c]);
            Check.due("turned against", x.clauseTold(2, c, 1), turnedAgainst[c]);
        }
        int[] told = {5, 3, 2, -1, -1, -1};
        for (int what = 0; what < 6; what++) {
            Check.due("told " + what, x.taskTold(2, what), told[what]);
        }
        Check.sheet(x, 0, 2, 0, 1, 2);
        Check.due("the same numbers", x.twin(2, 0, 6), 3);
        Check.due("turned back", x.clauseTold(3, 0, 0), 5);
    }

    private static void twinsOfMade() {
        HiddenWorks x = new HiddenWorks();
        Check.recipe(x, "k0 n4 c12 w3 0 1 2 1");
        x.make(0, 11);
        int[] order = {3, 1, 0, 2};
        Check.sheet(x, 0, 1, order);
        Check.due("twin", x.twin(0, 0, 9), 1);
        int hidden = x.taskTold(0, 3), due = 0;
        for (int l = 0; l < 4; l++) {
            due |= (hidden >> l & 1) << order[l];
        }
        Check.due("hidden", x.taskTold(1, 3), due ^ 9);
        Check.due("no recipe", x.taskTold(1, 4), -1);
        Check.due("no seed", x.taskTold(1, 5), -1);
        Check.due("as many answers", x.answers(1, 0, 0), x.answers(0, 0, 0));
        Check.due("what is hidden solves", x.solves(1, due ^ 9), -1);
        for (int l = 0; l < 4; l++) {
            Check.due("it leans as much", x.lean(1, order[l]), x.lean(0, l));
        }
    }

    private static void twinRefusals() {
        HiddenWorks x = new HiddenWorks();
        Check.due("no task", x.twin(0, 0, 0), -1);
        Check.wild(x, 0, 3, 1, 0);
        Check.due("no sheet", x.twin(0, 4, 0), -1);
        Check.due("no sheet", x.twin(0, -1, 0), -1);
        Check.due("missing, ahead of turned", x.twin(0, 0, -1), -11);
        int[][] wrong = {{}, {0, 1}, {0, 1, 2, 3}, {0, 1, 1}, {0, 1, 3}, {0, 1, -1}, {0, 1, 34}, {0, 2, Integer.MIN_VALUE}};
        for (int[] w : wrong) {
            Check.sheet(x, 0, 2, w);
            Check.due("wrong numbers", x.twin(0, 0, 0), -2);
        }
        Check.sheet(x, 0, 2, 1, 2, 0);
        Check.due("turned above", x.twin(0, 0, 8), -2);
        Check.due("turned below", x.twin(0, 0, -1), -2);
        Check.due("nothing came", x.count(0), 1);
        for (int t = 1; t < 8; t++) {
            Check.due("a twin of a twin", x.twin(t - 1, 0, 7), t);
        }
        Check.due("turned, ahead of full", x.twin(0, 0, 8), -2);
        Check.due("full", x.twin(0, 0, 7), -4);
    }

    private static void claiming() {
        HiddenWorks x = new HiddenWorks();
        Check.due("no task, first", x.claim(0, 0), -1);
        Check.wild(x, 0, 1, 1, 0);
        Check.due("steps below", x.claim(0, 0), -2);
        Check.due("steps above", x.claim(0, 2001), -2);
        for (int k = 0; k < 20; k++) {
            Check.due("a claim", x.claim(0, 2000 - k), k);
        }
        Check.due("steps, ahead of full", x.claim(0, 0), -2);
        Check.due("full", x.claim(0, 1), -4);
        Check.due("twenty", x.count(2), 20);
        int[] told = {0, 1981, 0, -1};
        for (int what = 0; what < 4; what++) {
            Check.due("told " + what, x.claimTold(19, what), told[what]);
        }
        Check.due("what below", x.claimTold(0, -1), -7);
        Check.due("what above", x.claimTold(0, 4), -7);
        Check.due("no claim, ahead of what", x.claimTold(20, 4), -5);
        Check.due("below", x.claimTold(-1, 0), -5);
        Check.due("tries none, ahead of the finder", x.tries(20, 4), -1);
        Check.due("tries below", x.tries(-1, 0), -1);
        Check.due("tries finder below", x.tries(0, -1), -2);
        Check.due("tries finder above", x.tries(0, 4), -2);
    }

    private static void state(HiddenWorks x, int k, int state, int by) {
        Check.due("state of " + k, x.claimTold(k, 2), state);
        Check.due("by which of " + k, x.claimTold(k, 3), by);
    }

    /** Search finds in 6 steps here, climbing from none in 3, counts don't. */
    private static void shakenAndBroken() {
        HiddenWorks x = new HiddenWorks();
        Check.wild(x, 0, 3, 1, 0, 6, 1);
        Check.due("search", x.find(0, 3, 99, 1), 6);
        Check.due("climb", x.find(0, 1, 99, 1), 3);
        Check.due("counts", x.find(0, 0, 99, 0), -1);
        for (int steps = 1; steps <= 9; steps++) {
            x.claim(0, steps);
            int k = steps - 1, due = 2 * steps < 6 ? 0 : 6 < steps ? 2 : 1;
            Check.due("tries with " + steps, x.tries(k, 3), due);
            state(x, k, due, due == 0 ? -1 : 3);
        }
        Check.due("broken by 6 of 7", x.tries(6, 3), -3);
        Check.due("finder, ahead of broken", x.tries(6, 4), -2);
        Check.due("counts don't find: no less than it was", x.tries(5, 0), 1);
        state(x, 5, 1, 3);
        Check.due("climb breaks what was shaken", x.tries(5, 1), 2);
        state(x, 5, 2, 1);
        Check.due("shaken again", x.tries(2, 3), 1);
        Check.due("shaken by 3 of 3, not more", x.tries(2, 1), 1);
        state(x, 2, 1, 3);
        Check.due("3 of 2 shake", x.tries(1, 1), 1);
        state(x, 1, 1, 1);
        Check.due("search doesn't find in 4", x.tries(1, 3), 1);
        state(x, 1, 1, 1);
        Check.due("3 of 1 don't", x.tries(0, 1), 0);
        state(x, 0, 0, -1);
    }

    /** Twice the steps go beyond what find() takes: up to 4000. */
    private static void twiceTheSteps() {
        HiddenWorks x = new HiddenWorks();
        int[] allTrueButTheLast = new int[36];
        for (int l = 0; l < 9; l++) {
            allTrueButTheLast[4 * l] = 1 << l | 512;
            allTrueButTheLast[4 * l + 2] = 1 << l;
            allTrueButTheLast[4 * l + 3] = 512;
        }
        Check.wild(x, 0, 10, allTrueButTheLast);
        Check.due("the first answer", x.answer(0, 0), 511);
        Check.due("not in 2000", x.find(0, 3, 2000, 0), -1);
        int[] claimed = {1022, 1023, 2000}, due = {0, 1, 1};
        for (int k = 0; k < 3; k++) {
            x.claim(0, claimed[k]);
            Check.due("in 2046 of twice " + claimed[k], x.tries(k, 3), due[k]);
        }
        Check.wild(x, 0, 10, 513, 0, 1, 512);
        Check.due("found", x.find(1, 3, 2000, 0), 1);
        Check.due("in all with letter 0 false, the first, and 10 more", x.find(1, 3, 2000, 1), 1034);
        x.claim(1, 1034);
        x.claim(1, 1035);
        Check.due("as many as claimed", x.tries(3, 3), 1);
        Check.due("one fewer than claimed", x.tries(4, 3), 2);
        Check.wild(x, 0, 10, 512, 0, 0, 512);
        x.claim(2, 2000);
        Check.due("no answer: it stands", x.tries(5, 3), 0);
    }

    private static void images() {
        HiddenWorks x = new HiddenWorks();
        Check.due("none", x.back(), -3);
        Check.due("of none", x.image(), 0);
        Check.wild(x, 0, 3, 1, 0);
        Check.wild(x, 1, 3, 1, 0);
        Check.due("of two", x.image(), 2);
        Check.wild(x, 2, 3, 1, 0);
        Check.wild(x, 3, 3, 1, 0);
        int[][] claims = {{3, 10}, {0, 11}, {2, 12}, {1, 13}, {3, 14}, {0, 15}};
        for (int[] c : claims) {
            x.claim(c[0], c[1]);
        }
        x.tries(3, 3);
        int state = x.claimTold(3, 2), by = x.claimTold(3, 3);
        Check.due("back", x.back(), 2);
        Check.due("two tasks", x.count(0), 2);
        Check.due("three claims", x.count(2), 3);
        int[] steps = {11, 13, 15}, tasks = {0, 1, 0};
        for (int k = 0; k < 3; k++) {
            Check.due("task", x.claimTold(k, 0), tasks[k]);
            Check.due("steps", x.claimTold(k, 1), steps[k]);
        }
        state(x, 1, state, by);
        state(x, 0, 0, -1);
        Check.due("gone", x.claimTold(3, 0), -5);
        Check.due("gone", x.taskTold(2, 0), -5);
        Check.due("the next one", x.claim(1, 16), 3);
        state(x, 3, 0, -1);
        Check.due("back again", x.back(), 2);
        Check.due("its claims stay", x.count(2), 4);
        Check.wild(x, 4, 3);
        Check.due("three", x.image(), 3);
        Check.due("the later image", x.back(), 3);
    }
}
